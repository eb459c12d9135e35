section
-- ===== PART A: goes FIRST, ahead of the names: the tables' words, and 'selects' of the private methods out of them =====
/-- a private method of a class that the tables say can be made, by its rows of tables_1 -/
def lw_okq (q : MethodName × Nat) : Prop := (q.1.cls ≠ "java/lang/invoke/MethodHandle" ∧ q.1.cls ≠ "java/lang/invoke/VarHandle") ∧ Cond.instantiable q.1.cls q.2 ∈ tables_1 ∧ Cond.privateMethod q.1 ∈ tables_1 ∧ Cond.instanceMethod q.1 ∈ tables_1
theorem lw_p0 : lw_okq (⟨"StaveHouse", "waitWord", "(II)V"⟩, 10) := ⟨⟨by decide +kernel, by decide +kernel⟩, List.mem_of_getElem? (i := 25) (by decide +kernel), List.mem_of_getElem? (i := 403) (by decide +kernel), List.mem_of_getElem? (i := 404) (by decide +kernel)⟩
theorem lw_p1 : lw_okq (⟨"StaveHouse$Tokens", "keepRun", "(LStaveHouse$ByteRow;III)V"⟩, 9) := ⟨⟨by decide +kernel, by decide +kernel⟩, List.mem_of_getElem? (i := 67) (by decide +kernel), List.mem_of_getElem? (i := 534) (by decide +kernel), List.mem_of_getElem? (i := 535) (by decide +kernel)⟩
theorem lw_p2 : lw_okq (⟨"StaveHouse$Parser", "beginsHead", "()Z"⟩, 22) := ⟨⟨by decide +kernel, by decide +kernel⟩, List.mem_of_getElem? (i := 61) (by decide +kernel), List.mem_of_getElem? (i := 636) (by decide +kernel), List.mem_of_getElem? (i := 637) (by decide +kernel)⟩
theorem lw_p3 : lw_okq (⟨"StaveHouse$Parser", "headSort", "()I"⟩, 22) := ⟨⟨by decide +kernel, by decide +kernel⟩, List.mem_of_getElem? (i := 61) (by decide +kernel), List.mem_of_getElem? (i := 645) (by decide +kernel), List.mem_of_getElem? (i := 646) (by decide +kernel)⟩
theorem lw_p4 : lw_okq (⟨"StaveHouse$Parser", "takeLet", "()Z"⟩, 22) := ⟨⟨by decide +kernel, by decide +kernel⟩, List.mem_of_getElem? (i := 61) (by decide +kernel), List.mem_of_getElem? (i := 652) (by decide +kernel), List.mem_of_getElem? (i := 653) (by decide +kernel)⟩
theorem lw_p5 : lw_okq (⟨"StaveHouse$Parser", "newItem", "(I)I"⟩, 22) := ⟨⟨by decide +kernel, by decide +kernel⟩, List.mem_of_getElem? (i := 61) (by decide +kernel), List.mem_of_getElem? (i := 656) (by decide +kernel), List.mem_of_getElem? (i := 657) (by decide +kernel)⟩
theorem lw_p6 : lw_okq (⟨"StaveHouse$Parser", "isName", "()Z"⟩, 22) := ⟨⟨by decide +kernel, by decide +kernel⟩, List.mem_of_getElem? (i := 61) (by decide +kernel), List.mem_of_getElem? (i := 662) (by decide +kernel), List.mem_of_getElem? (i := 663) (by decide +kernel)⟩
theorem lw_p7 : lw_okq (⟨"StaveHouse$Parser", "refuse", "(I)Z"⟩, 22) := ⟨⟨by decide +kernel, by decide +kernel⟩, List.mem_of_getElem? (i := 61) (by decide +kernel), List.mem_of_getElem? (i := 677) (by decide +kernel), List.mem_of_getElem? (i := 678) (by decide +kernel)⟩
theorem lw_p8 : lw_okq (⟨"StaveHouse$Parser", "letNamed", "(J)I"⟩, 22) := ⟨⟨by decide +kernel, by decide +kernel⟩, List.mem_of_getElem? (i := 61) (by decide +kernel), List.mem_of_getElem? (i := 681) (by decide +kernel), List.mem_of_getElem? (i := 682) (by decide +kernel)⟩
theorem lw_p9 : lw_okq (⟨"StaveHouse$Parser", "takeSign", "(C)Z"⟩, 22) := ⟨⟨by decide +kernel, by decide +kernel⟩, List.mem_of_getElem? (i := 61) (by decide +kernel), List.mem_of_getElem? (i := 685) (by decide +kernel), List.mem_of_getElem? (i := 686) (by decide +kernel)⟩
theorem lw_p10 : lw_okq (⟨"StaveHouse$Parser", "takeBlock", "(I)Z"⟩, 22) := ⟨⟨by decide +kernel, by decide +kernel⟩, List.mem_of_getElem? (i := 61) (by decide +kernel), List.mem_of_getElem? (i := 693) (by decide +kernel), List.mem_of_getElem? (i := 694) (by decide +kernel)⟩
theorem lw_p11 : lw_okq (⟨"StaveHouse$Parser", "takeOpening", "(C)Z"⟩, 22) := ⟨⟨by decide +kernel, by decide +kernel⟩, List.mem_of_getElem? (i := 61) (by decide +kernel), List.mem_of_getElem? (i := 697) (by decide +kernel), List.mem_of_getElem? (i := 698) (by decide +kernel)⟩
theorem lw_p12 : lw_okq (⟨"StaveHouse$Parser", "takeMusic", "(I)Z"⟩, 22) := ⟨⟨by decide +kernel, by decide +kernel⟩, List.mem_of_getElem? (i := 61) (by decide +kernel), List.mem_of_getElem? (i := 701) (by decide +kernel), List.mem_of_getElem? (i := 702) (by decide +kernel)⟩
theorem lw_p13 : lw_okq (⟨"StaveHouse$Parser", "itemSort", "()I"⟩, 22) := ⟨⟨by decide +kernel, by decide +kernel⟩, List.mem_of_getElem? (i := 61) (by decide +kernel), List.mem_of_getElem? (i := 705) (by decide +kernel), List.mem_of_getElem? (i := 706) (by decide +kernel)⟩
theorem lw_p14 : lw_okq (⟨"StaveHouse$Parser", "takeItem", "(I)Z"⟩, 22) := ⟨⟨by decide +kernel, by decide +kernel⟩, List.mem_of_getElem? (i := 61) (by decide +kernel), List.mem_of_getElem? (i := 710) (by decide +kernel), List.mem_of_getElem? (i := 711) (by decide +kernel)⟩
theorem lw_p15 : lw_okq (⟨"StaveHouse$Parser", "takeEvent", "(I)Z"⟩, 22) := ⟨⟨by decide +kernel, by decide +kernel⟩, List.mem_of_getElem? (i := 61) (by decide +kernel), List.mem_of_getElem? (i := 714) (by decide +kernel), List.mem_of_getElem? (i := 715) (by decide +kernel)⟩
def lw_privs_1 : List (MethodName × Nat) := [(⟨"StaveHouse", "waitWord", "(II)V"⟩, 10), (⟨"StaveHouse$Tokens", "keepRun", "(LStaveHouse$ByteRow;III)V"⟩, 9), (⟨"StaveHouse$Parser", "beginsHead", "()Z"⟩, 22), (⟨"StaveHouse$Parser", "headSort", "()I"⟩, 22), (⟨"StaveHouse$Parser", "takeLet", "()Z"⟩, 22), (⟨"StaveHouse$Parser", "newItem", "(I)I"⟩, 22), (⟨"StaveHouse$Parser", "isName", "()Z"⟩, 22), (⟨"StaveHouse$Parser", "refuse", "(I)Z"⟩, 22), (⟨"StaveHouse$Parser", "letNamed", "(J)I"⟩, 22), (⟨"StaveHouse$Parser", "takeSign", "(C)Z"⟩, 22), (⟨"StaveHouse$Parser", "takeBlock", "(I)Z"⟩, 22), (⟨"StaveHouse$Parser", "takeOpening", "(C)Z"⟩, 22), (⟨"StaveHouse$Parser", "takeMusic", "(I)Z"⟩, 22), (⟨"StaveHouse$Parser", "itemSort", "()I"⟩, 22), (⟨"StaveHouse$Parser", "takeItem", "(I)Z"⟩, 22), (⟨"StaveHouse$Parser", "takeEvent", "(I)Z"⟩, 22)]
theorem lw_r1 : ∀ q ∈ lw_privs_1, lw_okq q := List.forall_mem_cons.mpr ⟨lw_p0, List.forall_mem_cons.mpr ⟨lw_p1, List.forall_mem_cons.mpr ⟨lw_p2, List.forall_mem_cons.mpr ⟨lw_p3, List.forall_mem_cons.mpr ⟨lw_p4, List.forall_mem_cons.mpr ⟨lw_p5, List.forall_mem_cons.mpr ⟨lw_p6, List.forall_mem_cons.mpr ⟨lw_p7, List.forall_mem_cons.mpr ⟨lw_p8, List.forall_mem_cons.mpr ⟨lw_p9, List.forall_mem_cons.mpr ⟨lw_p10, List.forall_mem_cons.mpr ⟨lw_p11, List.forall_mem_cons.mpr ⟨lw_p12, List.forall_mem_cons.mpr ⟨lw_p13, List.forall_mem_cons.mpr ⟨lw_p14, List.forall_mem_cons.mpr ⟨lw_p15, fun _ h => absurd h List.not_mem_nil⟩⟩⟩⟩⟩⟩⟩⟩⟩⟩⟩⟩⟩⟩⟩⟩
theorem lw_p16 : lw_okq (⟨"StaveHouse$Parser", "takePitch", "(I)V"⟩, 22) := ⟨⟨by decide +kernel, by decide +kernel⟩, List.mem_of_getElem? (i := 61) (by decide +kernel), List.mem_of_getElem? (i := 718) (by decide +kernel), List.mem_of_getElem? (i := 719) (by decide +kernel)⟩
theorem lw_p17 : lw_okq (⟨"StaveHouse$Parser", "takeChord", "(I)Z"⟩, 22) := ⟨⟨by decide +kernel, by decide +kernel⟩, List.mem_of_getElem? (i := 61) (by decide +kernel), List.mem_of_getElem? (i := 722) (by decide +kernel), List.mem_of_getElem? (i := 723) (by decide +kernel)⟩
theorem lw_p18 : lw_okq (⟨"StaveHouse$Parser", "takeLength", "()Z"⟩, 22) := ⟨⟨by decide +kernel, by decide +kernel⟩, List.mem_of_getElem? (i := 61) (by decide +kernel), List.mem_of_getElem? (i := 726) (by decide +kernel), List.mem_of_getElem? (i := 727) (by decide +kernel)⟩
theorem lw_p19 : lw_okq (⟨"StaveHouse$Parser", "takeNumber", "(IIZ)Z"⟩, 22) := ⟨⟨by decide +kernel, by decide +kernel⟩, List.mem_of_getElem? (i := 61) (by decide +kernel), List.mem_of_getElem? (i := 730) (by decide +kernel), List.mem_of_getElem? (i := 731) (by decide +kernel)⟩
theorem lw_p20 : lw_okq (⟨"StaveHouse$Parser", "takeMarks", "(I)V"⟩, 22) := ⟨⟨by decide +kernel, by decide +kernel⟩, List.mem_of_getElem? (i := 61) (by decide +kernel), List.mem_of_getElem? (i := 743) (by decide +kernel), List.mem_of_getElem? (i := 744) (by decide +kernel)⟩
theorem lw_p21 : lw_okq (⟨"StaveHouse$Parser", "takeBracket", "(I)Z"⟩, 22) := ⟨⟨by decide +kernel, by decide +kernel⟩, List.mem_of_getElem? (i := 61) (by decide +kernel), List.mem_of_getElem? (i := 750) (by decide +kernel), List.mem_of_getElem? (i := 751) (by decide +kernel)⟩
theorem lw_p22 : lw_okq (⟨"StaveHouse$Parser", "takeFraction", "(III)Z"⟩, 22) := ⟨⟨by decide +kernel, by decide +kernel⟩, List.mem_of_getElem? (i := 61) (by decide +kernel), List.mem_of_getElem? (i := 754) (by decide +kernel), List.mem_of_getElem? (i := 755) (by decide +kernel)⟩
theorem lw_p23 : lw_okq (⟨"StaveHouse$Parser", "takeClosing", "(C)Z"⟩, 22) := ⟨⟨by decide +kernel, by decide +kernel⟩, List.mem_of_getElem? (i := 61) (by decide +kernel), List.mem_of_getElem? (i := 758) (by decide +kernel), List.mem_of_getElem? (i := 759) (by decide +kernel)⟩
theorem lw_p24 : lw_okq (⟨"StaveHouse$Parser", "takeLoud", "(I)Z"⟩, 22) := ⟨⟨by decide +kernel, by decide +kernel⟩, List.mem_of_getElem? (i := 61) (by decide +kernel), List.mem_of_getElem? (i := 762) (by decide +kernel), List.mem_of_getElem? (i := 763) (by decide +kernel)⟩
theorem lw_p25 : lw_okq (⟨"StaveHouse$Parser", "takeRepeat", "(I)Z"⟩, 22) := ⟨⟨by decide +kernel, by decide +kernel⟩, List.mem_of_getElem? (i := 61) (by decide +kernel), List.mem_of_getElem? (i := 766) (by decide +kernel), List.mem_of_getElem? (i := 767) (by decide +kernel)⟩
theorem lw_p26 : lw_okq (⟨"StaveHouse$Parser", "takeAlternatives", "(I)Z"⟩, 22) := ⟨⟨by decide +kernel, by decide +kernel⟩, List.mem_of_getElem? (i := 61) (by decide +kernel), List.mem_of_getElem? (i := 771) (by decide +kernel), List.mem_of_getElem? (i := 772) (by decide +kernel)⟩
theorem lw_p27 : lw_okq (⟨"StaveHouse$Parser", "takeUse", "(I)Z"⟩, 22) := ⟨⟨by decide +kernel, by decide +kernel⟩, List.mem_of_getElem? (i := 61) (by decide +kernel), List.mem_of_getElem? (i := 775) (by decide +kernel), List.mem_of_getElem? (i := 776) (by decide +kernel)⟩
theorem lw_p28 : lw_okq (⟨"StaveHouse$Parser", "takeMove", "(I)Z"⟩, 22) := ⟨⟨by decide +kernel, by decide +kernel⟩, List.mem_of_getElem? (i := 61) (by decide +kernel), List.mem_of_getElem? (i := 779) (by decide +kernel), List.mem_of_getElem? (i := 780) (by decide +kernel)⟩
theorem lw_p29 : lw_okq (⟨"StaveHouse$Parser", "takeMirror", "(I)Z"⟩, 22) := ⟨⟨by decide +kernel, by decide +kernel⟩, List.mem_of_getElem? (i := 61) (by decide +kernel), List.mem_of_getElem? (i := 794) (by decide +kernel), List.mem_of_getElem? (i := 795) (by decide +kernel)⟩
theorem lw_p30 : lw_okq (⟨"StaveHouse$Parser", "takeHead", "(LStaveHouse$Piece;)Z"⟩, 22) := ⟨⟨by decide +kernel, by decide +kernel⟩, List.mem_of_getElem? (i := 61) (by decide +kernel), List.mem_of_getElem? (i := 798) (by decide +kernel), List.mem_of_getElem? (i := 799) (by decide +kernel)⟩
theorem lw_p31 : lw_okq (⟨"StaveHouse$Parser", "takeKey", "(LStaveHouse$Piece;)Z"⟩, 22) := ⟨⟨by decide +kernel, by decide +kernel⟩, List.mem_of_getElem? (i := 61) (by decide +kernel), List.mem_of_getElem? (i := 802) (by decide +kernel), List.mem_of_getElem? (i := 803) (by decide +kernel)⟩
def lw_privs_2 : List (MethodName × Nat) := [(⟨"StaveHouse$Parser", "takePitch", "(I)V"⟩, 22), (⟨"StaveHouse$Parser", "takeChord", "(I)Z"⟩, 22), (⟨"StaveHouse$Parser", "takeLength", "()Z"⟩, 22), (⟨"StaveHouse$Parser", "takeNumber", "(IIZ)Z"⟩, 22), (⟨"StaveHouse$Parser", "takeMarks", "(I)V"⟩, 22), (⟨"StaveHouse$Parser", "takeBracket", "(I)Z"⟩, 22), (⟨"StaveHouse$Parser", "takeFraction", "(III)Z"⟩, 22), (⟨"StaveHouse$Parser", "takeClosing", "(C)Z"⟩, 22), (⟨"StaveHouse$Parser", "takeLoud", "(I)Z"⟩, 22), (⟨"StaveHouse$Parser", "takeRepeat", "(I)Z"⟩, 22), (⟨"StaveHouse$Parser", "takeAlternatives", "(I)Z"⟩, 22), (⟨"StaveHouse$Parser", "takeUse", "(I)Z"⟩, 22), (⟨"StaveHouse$Parser", "takeMove", "(I)Z"⟩, 22), (⟨"StaveHouse$Parser", "takeMirror", "(I)Z"⟩, 22), (⟨"StaveHouse$Parser", "takeHead", "(LStaveHouse$Piece;)Z"⟩, 22), (⟨"StaveHouse$Parser", "takeKey", "(LStaveHouse$Piece;)Z"⟩, 22)]
theorem lw_r2 : ∀ q ∈ lw_privs_2, lw_okq q := List.forall_mem_cons.mpr ⟨lw_p16, List.forall_mem_cons.mpr ⟨lw_p17, List.forall_mem_cons.mpr ⟨lw_p18, List.forall_mem_cons.mpr ⟨lw_p19, List.forall_mem_cons.mpr ⟨lw_p20, List.forall_mem_cons.mpr ⟨lw_p21, List.forall_mem_cons.mpr ⟨lw_p22, List.forall_mem_cons.mpr ⟨lw_p23, List.forall_mem_cons.mpr ⟨lw_p24, List.forall_mem_cons.mpr ⟨lw_p25, List.forall_mem_cons.mpr ⟨lw_p26, List.forall_mem_cons.mpr ⟨lw_p27, List.forall_mem_cons.mpr ⟨lw_p28, List.forall_mem_cons.mpr ⟨lw_p29, List.forall_mem_cons.mpr ⟨lw_p30, List.forall_mem_cons.mpr ⟨lw_p31, fun _ h => absurd h List.not_mem_nil⟩⟩⟩⟩⟩⟩⟩⟩⟩⟩⟩⟩⟩⟩⟩⟩
theorem lw_p32 : lw_okq (⟨"StaveHouse$Parser", "takeTime", "(LStaveHouse$Piece;)Z"⟩, 22) := ⟨⟨by decide +kernel, by decide +kernel⟩, List.mem_of_getElem? (i := 61) (by decide +kernel), List.mem_of_getElem? (i := 808) (by decide +kernel), List.mem_of_getElem? (i := 809) (by decide +kernel)⟩
theorem lw_p33 : lw_okq (⟨"StaveHouse$Parser", "takeVoice", "(LStaveHouse$Piece;)Z"⟩, 22) := ⟨⟨by decide +kernel, by decide +kernel⟩, List.mem_of_getElem? (i := 61) (by decide +kernel), List.mem_of_getElem? (i := 813) (by decide +kernel), List.mem_of_getElem? (i := 814) (by decide +kernel)⟩
theorem lw_p34 : lw_okq (⟨"StaveHouse$Walker", "goThrough", "(II)V"⟩, 19) := ⟨⟨by decide +kernel, by decide +kernel⟩, List.mem_of_getElem? (i := 185) (by decide +kernel), List.mem_of_getElem? (i := 917) (by decide +kernel), List.mem_of_getElem? (i := 918) (by decide +kernel)⟩
theorem lw_p35 : lw_okq (⟨"StaveHouse$Walker", "countItem", "(I)V"⟩, 19) := ⟨⟨by decide +kernel, by decide +kernel⟩, List.mem_of_getElem? (i := 185) (by decide +kernel), List.mem_of_getElem? (i := 921) (by decide +kernel), List.mem_of_getElem? (i := 922) (by decide +kernel)⟩
theorem lw_p36 : lw_okq (⟨"StaveHouse$Walker", "refuse", "(II)V"⟩, 19) := ⟨⟨by decide +kernel, by decide +kernel⟩, List.mem_of_getElem? (i := 185) (by decide +kernel), List.mem_of_getElem? (i := 925) (by decide +kernel), List.mem_of_getElem? (i := 926) (by decide +kernel)⟩
theorem lw_p37 : lw_okq (⟨"StaveHouse$Walker", "goItem", "(II)V"⟩, 19) := ⟨⟨by decide +kernel, by decide +kernel⟩, List.mem_of_getElem? (i := 185) (by decide +kernel), List.mem_of_getElem? (i := 929) (by decide +kernel), List.mem_of_getElem? (i := 930) (by decide +kernel)⟩
theorem lw_p38 : lw_okq (⟨"StaveHouse$Walker", "makeEvent", "(I)V"⟩, 19) := ⟨⟨by decide +kernel, by decide +kernel⟩, List.mem_of_getElem? (i := 185) (by decide +kernel), List.mem_of_getElem? (i := 933) (by decide +kernel), List.mem_of_getElem? (i := 934) (by decide +kernel)⟩
theorem lw_p39 : lw_okq (⟨"StaveHouse$Walker", "slowed", "(I)I"⟩, 19) := ⟨⟨by decide +kernel, by decide +kernel⟩, List.mem_of_getElem? (i := 185) (by decide +kernel), List.mem_of_getElem? (i := 937) (by decide +kernel), List.mem_of_getElem? (i := 938) (by decide +kernel)⟩
theorem lw_p40 : lw_okq (⟨"StaveHouse$Walker", "addPitch", "(LStaveHouse$Event;I)V"⟩, 19) := ⟨⟨by decide +kernel, by decide +kernel⟩, List.mem_of_getElem? (i := 185) (by decide +kernel), List.mem_of_getElem? (i := 944) (by decide +kernel), List.mem_of_getElem? (i := 945) (by decide +kernel)⟩
theorem lw_p41 : lw_okq (⟨"StaveHouse$Walker", "goBracket", "(II)V"⟩, 19) := ⟨⟨by decide +kernel, by decide +kernel⟩, List.mem_of_getElem? (i := 185) (by decide +kernel), List.mem_of_getElem? (i := 956) (by decide +kernel), List.mem_of_getElem? (i := 957) (by decide +kernel)⟩
theorem lw_p42 : lw_okq (⟨"StaveHouse$Walker", "goRepeat", "(II)V"⟩, 19) := ⟨⟨by decide +kernel, by decide +kernel⟩, List.mem_of_getElem? (i := 185) (by decide +kernel), List.mem_of_getElem? (i := 960) (by decide +kernel), List.mem_of_getElem? (i := 961) (by decide +kernel)⟩
theorem lw_p43 : lw_okq (⟨"StaveHouse$Walker", "goCarried", "(III)V"⟩, 19) := ⟨⟨by decide +kernel, by decide +kernel⟩, List.mem_of_getElem? (i := 185) (by decide +kernel), List.mem_of_getElem? (i := 964) (by decide +kernel), List.mem_of_getElem? (i := 965) (by decide +kernel)⟩
theorem lw_p44 : lw_okq (⟨"StaveHouse$Walker", "goBack", "(II)V"⟩, 19) := ⟨⟨by decide +kernel, by decide +kernel⟩, List.mem_of_getElem? (i := 185) (by decide +kernel), List.mem_of_getElem? (i := 968) (by decide +kernel), List.mem_of_getElem? (i := 969) (by decide +kernel)⟩
theorem lw_p45 : lw_okq (⟨"StaveHouse$Walker", "multiplySlow", "(II)V"⟩, 19) := ⟨⟨by decide +kernel, by decide +kernel⟩, List.mem_of_getElem? (i := 185) (by decide +kernel), List.mem_of_getElem? (i := 980) (by decide +kernel), List.mem_of_getElem? (i := 981) (by decide +kernel)⟩
theorem lw_p46 : lw_okq (⟨"StaveHouse$Part", "placeEvents", "()V"⟩, 13) := ⟨⟨by decide +kernel, by decide +kernel⟩, List.mem_of_getElem? (i := 825) (by decide +kernel), List.mem_of_getElem? (i := 988) (by decide +kernel), List.mem_of_getElem? (i := 989) (by decide +kernel)⟩
theorem lw_p47 : lw_okq (⟨"StaveHouse$Part", "bracketStands", "(IJ)Z"⟩, 13) := ⟨⟨by decide +kernel, by decide +kernel⟩, List.mem_of_getElem? (i := 825) (by decide +kernel), List.mem_of_getElem? (i := 993) (by decide +kernel), List.mem_of_getElem? (i := 994) (by decide +kernel)⟩
def lw_privs_3 : List (MethodName × Nat) := [(⟨"StaveHouse$Parser", "takeTime", "(LStaveHouse$Piece;)Z"⟩, 22), (⟨"StaveHouse$Parser", "takeVoice", "(LStaveHouse$Piece;)Z"⟩, 22), (⟨"StaveHouse$Walker", "goThrough", "(II)V"⟩, 19), (⟨"StaveHouse$Walker", "countItem", "(I)V"⟩, 19), (⟨"StaveHouse$Walker", "refuse", "(II)V"⟩, 19), (⟨"StaveHouse$Walker", "goItem", "(II)V"⟩, 19), (⟨"StaveHouse$Walker", "makeEvent", "(I)V"⟩, 19), (⟨"StaveHouse$Walker", "slowed", "(I)I"⟩, 19), (⟨"StaveHouse$Walker", "addPitch", "(LStaveHouse$Event;I)V"⟩, 19), (⟨"StaveHouse$Walker", "goBracket", "(II)V"⟩, 19), (⟨"StaveHouse$Walker", "goRepeat", "(II)V"⟩, 19), (⟨"StaveHouse$Walker", "goCarried", "(III)V"⟩, 19), (⟨"StaveHouse$Walker", "goBack", "(II)V"⟩, 19), (⟨"StaveHouse$Walker", "multiplySlow", "(II)V"⟩, 19), (⟨"StaveHouse$Part", "placeEvents", "()V"⟩, 13), (⟨"StaveHouse$Part", "bracketStands", "(IJ)Z"⟩, 13)]
theorem lw_r3 : ∀ q ∈ lw_privs_3, lw_okq q := List.forall_mem_cons.mpr ⟨lw_p32, List.forall_mem_cons.mpr ⟨lw_p33, List.forall_mem_cons.mpr ⟨lw_p34, List.forall_mem_cons.mpr ⟨lw_p35, List.forall_mem_cons.mpr ⟨lw_p36, List.forall_mem_cons.mpr ⟨lw_p37, List.forall_mem_cons.mpr ⟨lw_p38, List.forall_mem_cons.mpr ⟨lw_p39, List.forall_mem_cons.mpr ⟨lw_p40, List.forall_mem_cons.mpr ⟨lw_p41, List.forall_mem_cons.mpr ⟨lw_p42, List.forall_mem_cons.mpr ⟨lw_p43, List.forall_mem_cons.mpr ⟨lw_p44, List.forall_mem_cons.mpr ⟨lw_p45, List.forall_mem_cons.mpr ⟨lw_p46, List.forall_mem_cons.mpr ⟨lw_p47, fun _ h => absurd h List.not_mem_nil⟩⟩⟩⟩⟩⟩⟩⟩⟩⟩⟩⟩⟩⟩⟩⟩
theorem lw_p48 : lw_okq (⟨"StaveHouse$Part", "writeNotes", "(LStaveHouse$Piece;)V"⟩, 13) := ⟨⟨by decide +kernel, by decide +kernel⟩, List.mem_of_getElem? (i := 825) (by decide +kernel), List.mem_of_getElem? (i := 1010) (by decide +kernel), List.mem_of_getElem? (i := 1011) (by decide +kernel)⟩
theorem lw_p49 : lw_okq (⟨"StaveHouse$Part", "cut", "(LStaveHouse$Piece;IJJ)V"⟩, 13) := ⟨⟨by decide +kernel, by decide +kernel⟩, List.mem_of_getElem? (i := 825) (by decide +kernel), List.mem_of_getElem? (i := 1014) (by decide +kernel), List.mem_of_getElem? (i := 1015) (by decide +kernel)⟩
theorem lw_p50 : lw_okq (⟨"StaveHouse$Part", "writeTuplet", "(IIJ)V"⟩, 13) := ⟨⟨by decide +kernel, by decide +kernel⟩, List.mem_of_getElem? (i := 825) (by decide +kernel), List.mem_of_getElem? (i := 1021) (by decide +kernel), List.mem_of_getElem? (i := 1022) (by decide +kernel)⟩
theorem lw_p51 : lw_okq (⟨"StaveHouse$Part", "addNote", "(IIJI)V"⟩, 13) := ⟨⟨by decide +kernel, by decide +kernel⟩, List.mem_of_getElem? (i := 825) (by decide +kernel), List.mem_of_getElem? (i := 1032) (by decide +kernel), List.mem_of_getElem? (i := 1033) (by decide +kernel)⟩
theorem lw_p52 : lw_okq (⟨"StaveHouse$Part", "writeCut", "(LStaveHouse$Piece;IJJ)V"⟩, 13) := ⟨⟨by decide +kernel, by decide +kernel⟩, List.mem_of_getElem? (i := 825) (by decide +kernel), List.mem_of_getElem? (i := 1043) (by decide +kernel), List.mem_of_getElem? (i := 1044) (by decide +kernel)⟩
theorem lw_p53 : lw_okq (⟨"StaveHouse$Part", "hold", "()V"⟩, 13) := ⟨⟨by decide +kernel, by decide +kernel⟩, List.mem_of_getElem? (i := 825) (by decide +kernel), List.mem_of_getElem? (i := 1061) (by decide +kernel), List.mem_of_getElem? (i := 1062) (by decide +kernel)⟩
theorem lw_p54 : lw_okq (⟨"StaveHouse$Part", "isRestNote", "(I)Z"⟩, 13) := ⟨⟨by decide +kernel, by decide +kernel⟩, List.mem_of_getElem? (i := 825) (by decide +kernel), List.mem_of_getElem? (i := 1065) (by decide +kernel), List.mem_of_getElem? (i := 1066) (by decide +kernel)⟩
theorem lw_p55 : lw_okq (⟨"StaveHouse$Part", "continues", "(I)Z"⟩, 13) := ⟨⟨by decide +kernel, by decide +kernel⟩, List.mem_of_getElem? (i := 825) (by decide +kernel), List.mem_of_getElem? (i := 1069) (by decide +kernel), List.mem_of_getElem? (i := 1070) (by decide +kernel)⟩
theorem lw_p56 : lw_okq (⟨"StaveHouse$Part", "setAccidentals", "(I)V"⟩, 13) := ⟨⟨by decide +kernel, by decide +kernel⟩, List.mem_of_getElem? (i := 825) (by decide +kernel), List.mem_of_getElem? (i := 1073) (by decide +kernel), List.mem_of_getElem? (i := 1074) (by decide +kernel)⟩
theorem lw_p57 : lw_okq (⟨"StaveHouse$Part", "accidentalsOf", "(I)I"⟩, 13) := ⟨⟨by decide +kernel, by decide +kernel⟩, List.mem_of_getElem? (i := 825) (by decide +kernel), List.mem_of_getElem? (i := 1082) (by decide +kernel), List.mem_of_getElem? (i := 1083) (by decide +kernel)⟩
theorem lw_p58 : lw_okq (⟨"StaveHouse$Part", "setLedgers", "()V"⟩, 13) := ⟨⟨by decide +kernel, by decide +kernel⟩, List.mem_of_getElem? (i := 825) (by decide +kernel), List.mem_of_getElem? (i := 1091) (by decide +kernel), List.mem_of_getElem? (i := 1092) (by decide +kernel)⟩
theorem lw_p59 : lw_okq (⟨"StaveHouse$Part", "greatestHeight", "(I)I"⟩, 13) := ⟨⟨by decide +kernel, by decide +kernel⟩, List.mem_of_getElem? (i := 825) (by decide +kernel), List.mem_of_getElem? (i := 1095) (by decide +kernel), List.mem_of_getElem? (i := 1096) (by decide +kernel)⟩
theorem lw_p60 : lw_okq (⟨"StaveHouse$Part", "leastHeight", "(I)I"⟩, 13) := ⟨⟨by decide +kernel, by decide +kernel⟩, List.mem_of_getElem? (i := 825) (by decide +kernel), List.mem_of_getElem? (i := 1101) (by decide +kernel), List.mem_of_getElem? (i := 1102) (by decide +kernel)⟩
theorem lw_p61 : lw_okq (⟨"StaveHouse$Part", "group", "(J)V"⟩, 13) := ⟨⟨by decide +kernel, by decide +kernel⟩, List.mem_of_getElem? (i := 825) (by decide +kernel), List.mem_of_getElem? (i := 1110) (by decide +kernel), List.mem_of_getElem? (i := 1111) (by decide +kernel)⟩
theorem lw_p62 : lw_okq (⟨"StaveHouse$Part", "isBeamed", "(I)Z"⟩, 13) := ⟨⟨by decide +kernel, by decide +kernel⟩, List.mem_of_getElem? (i := 825) (by decide +kernel), List.mem_of_getElem? (i := 1114) (by decide +kernel), List.mem_of_getElem? (i := 1115) (by decide +kernel)⟩
theorem lw_p63 : lw_okq (⟨"StaveHouse$Part", "beamsWith", "(IIJ)Z"⟩, 13) := ⟨⟨by decide +kernel, by decide +kernel⟩, List.mem_of_getElem? (i := 825) (by decide +kernel), List.mem_of_getElem? (i := 1118) (by decide +kernel), List.mem_of_getElem? (i := 1119) (by decide +kernel)⟩
def lw_privs_4 : List (MethodName × Nat) := [(⟨"StaveHouse$Part", "writeNotes", "(LStaveHouse$Piece;)V"⟩, 13), (⟨"StaveHouse$Part", "cut", "(LStaveHouse$Piece;IJJ)V"⟩, 13), (⟨"StaveHouse$Part", "writeTuplet", "(IIJ)V"⟩, 13), (⟨"StaveHouse$Part", "addNote", "(IIJI)V"⟩, 13), (⟨"StaveHouse$Part", "writeCut", "(LStaveHouse$Piece;IJJ)V"⟩, 13), (⟨"StaveHouse$Part", "hold", "()V"⟩, 13), (⟨"StaveHouse$Part", "isRestNote", "(I)Z"⟩, 13), (⟨"StaveHouse$Part", "continues", "(I)Z"⟩, 13), (⟨"StaveHouse$Part", "setAccidentals", "(I)V"⟩, 13), (⟨"StaveHouse$Part", "accidentalsOf", "(I)I"⟩, 13), (⟨"StaveHouse$Part", "setLedgers", "()V"⟩, 13), (⟨"StaveHouse$Part", "greatestHeight", "(I)I"⟩, 13), (⟨"StaveHouse$Part", "leastHeight", "(I)I"⟩, 13), (⟨"StaveHouse$Part", "group", "(J)V"⟩, 13), (⟨"StaveHouse$Part", "isBeamed", "(I)Z"⟩, 13), (⟨"StaveHouse$Part", "beamsWith", "(IIJ)Z"⟩, 13)]
theorem lw_r4 : ∀ q ∈ lw_privs_4, lw_okq q := List.forall_mem_cons.mpr ⟨lw_p48, List.forall_mem_cons.mpr ⟨lw_p49, List.forall_mem_cons.mpr ⟨lw_p50, List.forall_mem_cons.mpr ⟨lw_p51, List.forall_mem_cons.mpr ⟨lw_p52, List.forall_mem_cons.mpr ⟨lw_p53, List.forall_mem_cons.mpr ⟨lw_p54, List.forall_mem_cons.mpr ⟨lw_p55, List.forall_mem_cons.mpr ⟨lw_p56, List.forall_mem_cons.mpr ⟨lw_p57, List.forall_mem_cons.mpr ⟨lw_p58, List.forall_mem_cons.mpr ⟨lw_p59, List.forall_mem_cons.mpr ⟨lw_p60, List.forall_mem_cons.mpr ⟨lw_p61, List.forall_mem_cons.mpr ⟨lw_p62, List.forall_mem_cons.mpr ⟨lw_p63, fun _ h => absurd h List.not_mem_nil⟩⟩⟩⟩⟩⟩⟩⟩⟩⟩⟩⟩⟩⟩⟩⟩
theorem lw_p64 : lw_okq (⟨"StaveHouse$Part", "setStems", "()V"⟩, 13) := ⟨⟨by decide +kernel, by decide +kernel⟩, List.mem_of_getElem? (i := 825) (by decide +kernel), List.mem_of_getElem? (i := 1123) (by decide +kernel), List.mem_of_getElem? (i := 1124) (by decide +kernel)⟩
theorem lw_p65 : lw_okq (⟨"StaveHouse", "pieceAt", "(I)LStaveHouse$Piece;"⟩, 10) := ⟨⟨by decide +kernel, by decide +kernel⟩, List.mem_of_getElem? (i := 25) (by decide +kernel), List.mem_of_getElem? (i := 1143) (by decide +kernel), List.mem_of_getElem? (i := 1144) (by decide +kernel)⟩
theorem lw_p66 : lw_okq (⟨"StaveHouse$Study", "findMoments", "(LStaveHouse$Piece;)V"⟩, 11) := ⟨⟨by decide +kernel, by decide +kernel⟩, List.mem_of_getElem? (i := 1151) (by decide +kernel), List.mem_of_getElem? (i := 1200) (by decide +kernel), List.mem_of_getElem? (i := 1201) (by decide +kernel)⟩
theorem lw_p67 : lw_okq (⟨"StaveHouse$Study", "nextPlace", "(LStaveHouse$Piece;I)J"⟩, 11) := ⟨⟨by decide +kernel, by decide +kernel⟩, List.mem_of_getElem? (i := 1151) (by decide +kernel), List.mem_of_getElem? (i := 1205) (by decide +kernel), List.mem_of_getElem? (i := 1206) (by decide +kernel)⟩
theorem lw_p68 : lw_okq (⟨"StaveHouse$Study", "takeLines", "(LStaveHouse$Piece;I)V"⟩, 11) := ⟨⟨by decide +kernel, by decide +kernel⟩, List.mem_of_getElem? (i := 1151) (by decide +kernel), List.mem_of_getElem? (i := 1210) (by decide +kernel), List.mem_of_getElem? (i := 1211) (by decide +kernel)⟩
theorem lw_p69 : lw_okq (⟨"StaveHouse$Study", "eventOf", "(LStaveHouse$Piece;II)LStaveHouse$Event;"⟩, 11) := ⟨⟨by decide +kernel, by decide +kernel⟩, List.mem_of_getElem? (i := 1151) (by decide +kernel), List.mem_of_getElem? (i := 1214) (by decide +kernel), List.mem_of_getElem? (i := 1215) (by decide +kernel)⟩
theorem lw_p70 : lw_okq (⟨"StaveHouse$Study", "findFaults", "(II)V"⟩, 11) := ⟨⟨by decide +kernel, by decide +kernel⟩, List.mem_of_getElem? (i := 1151) (by decide +kernel), List.mem_of_getElem? (i := 1228) (by decide +kernel), List.mem_of_getElem? (i := 1229) (by decide +kernel)⟩
theorem lw_p71 : lw_okq (⟨"StaveHouse$Study", "isFaultOfTwo", "(III)Z"⟩, 11) := ⟨⟨by decide +kernel, by decide +kernel⟩, List.mem_of_getElem? (i := 1151) (by decide +kernel), List.mem_of_getElem? (i := 1232) (by decide +kernel), List.mem_of_getElem? (i := 1233) (by decide +kernel)⟩
theorem lw_p72 : lw_okq (⟨"StaveHouse$Study", "addFault", "(IIII)V"⟩, 11) := ⟨⟨by decide +kernel, by decide +kernel⟩, List.mem_of_getElem? (i := 1151) (by decide +kernel), List.mem_of_getElem? (i := 1241) (by decide +kernel), List.mem_of_getElem? (i := 1242) (by decide +kernel)⟩
theorem lw_p73 : lw_okq (⟨"StaveHouse$Study", "isFaultOfOne", "(II)Z"⟩, 11) := ⟨⟨by decide +kernel, by decide +kernel⟩, List.mem_of_getElem? (i := 1151) (by decide +kernel), List.mem_of_getElem? (i := 1245) (by decide +kernel), List.mem_of_getElem? (i := 1246) (by decide +kernel)⟩
theorem lw_p74 : lw_okq (⟨"StaveHouse$Performance", "trill", "(LStaveHouse$Piece;II)V"⟩, 14) := ⟨⟨by decide +kernel, by decide +kernel⟩, List.mem_of_getElem? (i := 1257) (by decide +kernel), List.mem_of_getElem? (i := 1323) (by decide +kernel), List.mem_of_getElem? (i := 1324) (by decide +kernel)⟩
theorem lw_p75 : lw_okq (⟨"StaveHouse$Performance", "addSound", "(IIILStaveHouse$Event;II)V"⟩, 14) := ⟨⟨by decide +kernel, by decide +kernel⟩, List.mem_of_getElem? (i := 1257) (by decide +kernel), List.mem_of_getElem? (i := 1336) (by decide +kernel), List.mem_of_getElem? (i := 1337) (by decide +kernel)⟩
theorem lw_p76 : lw_okq (⟨"StaveHouse$Performance", "soundAll", "(LStaveHouse$Part;II)V"⟩, 14) := ⟨⟨by decide +kernel, by decide +kernel⟩, List.mem_of_getElem? (i := 1257) (by decide +kernel), List.mem_of_getElem? (i := 1343) (by decide +kernel), List.mem_of_getElem? (i := 1344) (by decide +kernel)⟩
theorem lw_p77 : lw_okq (⟨"StaveHouse", "partAt", "(II)LStaveHouse$Part;"⟩, 10) := ⟨⟨by decide +kernel, by decide +kernel⟩, List.mem_of_getElem? (i := 25) (by decide +kernel), List.mem_of_getElem? (i := 1369) (by decide +kernel), List.mem_of_getElem? (i := 1370) (by decide +kernel)⟩
theorem lw_p78 : lw_okq (⟨"StaveHouse", "eventAt", "(III)LStaveHouse$Event;"⟩, 10) := ⟨⟨by decide +kernel, by decide +kernel⟩, List.mem_of_getElem? (i := 25) (by decide +kernel), List.mem_of_getElem? (i := 1381) (by decide +kernel), List.mem_of_getElem? (i := 1382) (by decide +kernel)⟩
theorem lw_p79 : lw_okq (⟨"StaveHouse$Layout", "setColumns", "(LStaveHouse$Piece;I)V"⟩, 13) := ⟨⟨by decide +kernel, by decide +kernel⟩, List.mem_of_getElem? (i := 1410) (by decide +kernel), List.mem_of_getElem? (i := 1463) (by decide +kernel), List.mem_of_getElem? (i := 1464) (by decide +kernel)⟩
def lw_privs_5 : List (MethodName × Nat) := [(⟨"StaveHouse$Part", "setStems", "()V"⟩, 13), (⟨"StaveHouse", "pieceAt", "(I)LStaveHouse$Piece;"⟩, 10), (⟨"StaveHouse$Study", "findMoments", "(LStaveHouse$Piece;)V"⟩, 11), (⟨"StaveHouse$Study", "nextPlace", "(LStaveHouse$Piece;I)J"⟩, 11), (⟨"StaveHouse$Study", "takeLines", "(LStaveHouse$Piece;I)V"⟩, 11), (⟨"StaveHouse$Study", "eventOf", "(LStaveHouse$Piece;II)LStaveHouse$Event;"⟩, 11), (⟨"StaveHouse$Study", "findFaults", "(II)V"⟩, 11), (⟨"StaveHouse$Study", "isFaultOfTwo", "(III)Z"⟩, 11), (⟨"StaveHouse$Study", "addFault", "(IIII)V"⟩, 11), (⟨"StaveHouse$Study", "isFaultOfOne", "(II)Z"⟩, 11), (⟨"StaveHouse$Performance", "trill", "(LStaveHouse$Piece;II)V"⟩, 14), (⟨"StaveHouse$Performance", "addSound", "(IIILStaveHouse$Event;II)V"⟩, 14), (⟨"StaveHouse$Performance", "soundAll", "(LStaveHouse$Part;II)V"⟩, 14), (⟨"StaveHouse", "partAt", "(II)LStaveHouse$Part;"⟩, 10), (⟨"StaveHouse", "eventAt", "(III)LStaveHouse$Event;"⟩, 10), (⟨"StaveHouse$Layout", "setColumns", "(LStaveHouse$Piece;I)V"⟩, 13)]
theorem lw_r5 : ∀ q ∈ lw_privs_5, lw_okq q := List.forall_mem_cons.mpr ⟨lw_p64, List.forall_mem_cons.mpr ⟨lw_p65, List.forall_mem_cons.mpr ⟨lw_p66, List.forall_mem_cons.mpr ⟨lw_p67, List.forall_mem_cons.mpr ⟨lw_p68, List.forall_mem_cons.mpr ⟨lw_p69, List.forall_mem_cons.mpr ⟨lw_p70, List.forall_mem_cons.mpr ⟨lw_p71, List.forall_mem_cons.mpr ⟨lw_p72, List.forall_mem_cons.mpr ⟨lw_p73, List.forall_mem_cons.mpr ⟨lw_p74, List.forall_mem_cons.mpr ⟨lw_p75, List.forall_mem_cons.mpr ⟨lw_p76, List.forall_mem_cons.mpr ⟨lw_p77, List.forall_mem_cons.mpr ⟨lw_p78, List.forall_mem_cons.mpr ⟨lw_p79, fun _ h => absurd h List.not_mem_nil⟩⟩⟩⟩⟩⟩⟩⟩⟩⟩⟩⟩⟩⟩⟩⟩
theorem lw_p80 : lw_okq (⟨"StaveHouse$Layout", "addColumn", "(LStaveHouse$Piece;I)Z"⟩, 13) := ⟨⟨by decide +kernel, by decide +kernel⟩, List.mem_of_getElem? (i := 1410) (by decide +kernel), List.mem_of_getElem? (i := 1467) (by decide +kernel), List.mem_of_getElem? (i := 1468) (by decide +kernel)⟩
theorem lw_p81 : lw_okq (⟨"StaveHouse$Layout", "nextPlace", "(LStaveHouse$Piece;I)J"⟩, 13) := ⟨⟨by decide +kernel, by decide +kernel⟩, List.mem_of_getElem? (i := 1410) (by decide +kernel), List.mem_of_getElem? (i := 1471) (by decide +kernel), List.mem_of_getElem? (i := 1472) (by decide +kernel)⟩
theorem lw_p82 : lw_okq (⟨"StaveHouse$Layout", "widen", "(IJ)V"⟩, 13) := ⟨⟨by decide +kernel, by decide +kernel⟩, List.mem_of_getElem? (i := 1410) (by decide +kernel), List.mem_of_getElem? (i := 1481) (by decide +kernel), List.mem_of_getElem? (i := 1482) (by decide +kernel)⟩
theorem lw_p83 : lw_okq (⟨"StaveHouse$Layout", "choose", "(LStaveHouse$Piece;II)V"⟩, 13) := ⟨⟨by decide +kernel, by decide +kernel⟩, List.mem_of_getElem? (i := 1410) (by decide +kernel), List.mem_of_getElem? (i := 1487) (by decide +kernel), List.mem_of_getElem? (i := 1488) (by decide +kernel)⟩
theorem lw_p84 : lw_okq (⟨"StaveHouse$Layout", "widthOf", "(LStaveHouse$Piece;II)I"⟩, 13) := ⟨⟨by decide +kernel, by decide +kernel⟩, List.mem_of_getElem? (i := 1410) (by decide +kernel), List.mem_of_getElem? (i := 1500) (by decide +kernel), List.mem_of_getElem? (i := 1501) (by decide +kernel)⟩
theorem lw_p85 : lw_okq (⟨"StaveHouse$Layout", "setXs", "(LStaveHouse$Piece;II)V"⟩, 13) := ⟨⟨by decide +kernel, by decide +kernel⟩, List.mem_of_getElem? (i := 1410) (by decide +kernel), List.mem_of_getElem? (i := 1504) (by decide +kernel), List.mem_of_getElem? (i := 1505) (by decide +kernel)⟩
theorem lw_p86 : lw_okq (⟨"StaveHouse$Performance", "strokeKey", "(IJI)J"⟩, 14) := ⟨⟨by decide +kernel, by decide +kernel⟩, List.mem_of_getElem? (i := 1257) (by decide +kernel), List.mem_of_getElem? (i := 1532) (by decide +kernel), List.mem_of_getElem? (i := 1533) (by decide +kernel)⟩
theorem lw_p87 : lw_okq (⟨"StaveHouse$Performance", "sortStrokes", "()V"⟩, 14) := ⟨⟨by decide +kernel, by decide +kernel⟩, List.mem_of_getElem? (i := 1257) (by decide +kernel), List.mem_of_getElem? (i := 1537) (by decide +kernel), List.mem_of_getElem? (i := 1538) (by decide +kernel)⟩
theorem lw_p88 : lw_okq (⟨"StaveHouse$Performance", "merge", "(III)V"⟩, 14) := ⟨⟨by decide +kernel, by decide +kernel⟩, List.mem_of_getElem? (i := 1257) (by decide +kernel), List.mem_of_getElem? (i := 1541) (by decide +kernel), List.mem_of_getElem? (i := 1542) (by decide +kernel)⟩
theorem lw_p89 : lw_okq (⟨"StaveHouse", "performanceOf", "(I)LStaveHouse$Performance;"⟩, 10) := ⟨⟨by decide +kernel, by decide +kernel⟩, List.mem_of_getElem? (i := 25) (by decide +kernel), List.mem_of_getElem? (i := 1549) (by decide +kernel), List.mem_of_getElem? (i := 1550) (by decide +kernel)⟩
theorem lw_p90 : lw_okq (⟨"StaveHouse$Performance", "writeVoice", "(LStaveHouse$Part;ILStaveHouse$ByteRow;)V"⟩, 14) := ⟨⟨by decide +kernel, by decide +kernel⟩, List.mem_of_getElem? (i := 1257) (by decide +kernel), List.mem_of_getElem? (i := 1624) (by decide +kernel), List.mem_of_getElem? (i := 1625) (by decide +kernel)⟩
theorem lw_p91 : lw_okq (⟨"StaveHouse$Performance", "writeStrokes", "(ILStaveHouse$ByteRow;)V"⟩, 14) := ⟨⟨by decide +kernel, by decide +kernel⟩, List.mem_of_getElem? (i := 1257) (by decide +kernel), List.mem_of_getElem? (i := 1628) (by decide +kernel), List.mem_of_getElem? (i := 1629) (by decide +kernel)⟩
theorem lw_p92 : lw_okq (⟨"StaveHouse$SoundFile", "setDefaults", "()V"⟩, 15) := ⟨⟨by decide +kernel, by decide +kernel⟩, List.mem_of_getElem? (i := 1650) (by decide +kernel), List.mem_of_getElem? (i := 1715) (by decide +kernel), List.mem_of_getElem? (i := 1716) (by decide +kernel)⟩
theorem lw_p93 : lw_okq (⟨"StaveHouse$SoundFile", "loadHead", "()V"⟩, 15) := ⟨⟨by decide +kernel, by decide +kernel⟩, List.mem_of_getElem? (i := 1650) (by decide +kernel), List.mem_of_getElem? (i := 1719) (by decide +kernel), List.mem_of_getElem? (i := 1720) (by decide +kernel)⟩
theorem lw_p94 : lw_okq (⟨"StaveHouse$SoundFile", "takeOnly", "(II)V"⟩, 15) := ⟨⟨by decide +kernel, by decide +kernel⟩, List.mem_of_getElem? (i := 1650) (by decide +kernel), List.mem_of_getElem? (i := 1726) (by decide +kernel), List.mem_of_getElem? (i := 1727) (by decide +kernel)⟩
theorem lw_p95 : lw_okq (⟨"StaveHouse$SoundFile", "take", "()I"⟩, 15) := ⟨⟨by decide +kernel, by decide +kernel⟩, List.mem_of_getElem? (i := 1650) (by decide +kernel), List.mem_of_getElem? (i := 1730) (by decide +kernel), List.mem_of_getElem? (i := 1731) (by decide +kernel)⟩
def lw_privs_6 : List (MethodName × Nat) := [(⟨"StaveHouse$Layout", "addColumn", "(LStaveHouse$Piece;I)Z"⟩, 13), (⟨"StaveHouse$Layout", "nextPlace", "(LStaveHouse$Piece;I)J"⟩, 13), (⟨"StaveHouse$Layout", "widen", "(IJ)V"⟩, 13), (⟨"StaveHouse$Layout", "choose", "(LStaveHouse$Piece;II)V"⟩, 13), (⟨"StaveHouse$Layout", "widthOf", "(LStaveHouse$Piece;II)I"⟩, 13), (⟨"StaveHouse$Layout", "setXs", "(LStaveHouse$Piece;II)V"⟩, 13), (⟨"StaveHouse$Performance", "strokeKey", "(IJI)J"⟩, 14), (⟨"StaveHouse$Performance", "sortStrokes", "()V"⟩, 14), (⟨"StaveHouse$Performance", "merge", "(III)V"⟩, 14), (⟨"StaveHouse", "performanceOf", "(I)LStaveHouse$Performance;"⟩, 10), (⟨"StaveHouse$Performance", "writeVoice", "(LStaveHouse$Part;ILStaveHouse$ByteRow;)V"⟩, 14), (⟨"StaveHouse$Performance", "writeStrokes", "(ILStaveHouse$ByteRow;)V"⟩, 14), (⟨"StaveHouse$SoundFile", "setDefaults", "()V"⟩, 15), (⟨"StaveHouse$SoundFile", "loadHead", "()V"⟩, 15), (⟨"StaveHouse$SoundFile", "takeOnly", "(II)V"⟩, 15), (⟨"StaveHouse$SoundFile", "take", "()I"⟩, 15)]
theorem lw_r6 : ∀ q ∈ lw_privs_6, lw_okq q := List.forall_mem_cons.mpr ⟨lw_p80, List.forall_mem_cons.mpr ⟨lw_p81, List.forall_mem_cons.mpr ⟨lw_p82, List.forall_mem_cons.mpr ⟨lw_p83, List.forall_mem_cons.mpr ⟨lw_p84, List.forall_mem_cons.mpr ⟨lw_p85, List.forall_mem_cons.mpr ⟨lw_p86, List.forall_mem_cons.mpr ⟨lw_p87, List.forall_mem_cons.mpr ⟨lw_p88, List.forall_mem_cons.mpr ⟨lw_p89, List.forall_mem_cons.mpr ⟨lw_p90, List.forall_mem_cons.mpr ⟨lw_p91, List.forall_mem_cons.mpr ⟨lw_p92, List.forall_mem_cons.mpr ⟨lw_p93, List.forall_mem_cons.mpr ⟨lw_p94, List.forall_mem_cons.mpr ⟨lw_p95, fun _ h => absurd h List.not_mem_nil⟩⟩⟩⟩⟩⟩⟩⟩⟩⟩⟩⟩⟩⟩⟩⟩
theorem lw_p96 : lw_okq (⟨"StaveHouse$SoundFile", "refuse", "(II)V"⟩, 15) := ⟨⟨by decide +kernel, by decide +kernel⟩, List.mem_of_getElem? (i := 1650) (by decide +kernel), List.mem_of_getElem? (i := 1734) (by decide +kernel), List.mem_of_getElem? (i := 1735) (by decide +kernel)⟩
theorem lw_p97 : lw_okq (⟨"StaveHouse$SoundFile", "takeWide", "(I)J"⟩, 15) := ⟨⟨by decide +kernel, by decide +kernel⟩, List.mem_of_getElem? (i := 1650) (by decide +kernel), List.mem_of_getElem? (i := 1739) (by decide +kernel), List.mem_of_getElem? (i := 1740) (by decide +kernel)⟩
theorem lw_p98 : lw_okq (⟨"StaveHouse$SoundFile", "takeBounded", "(IJJ)I"⟩, 15) := ⟨⟨by decide +kernel, by decide +kernel⟩, List.mem_of_getElem? (i := 1650) (by decide +kernel), List.mem_of_getElem? (i := 1746) (by decide +kernel), List.mem_of_getElem? (i := 1747) (by decide +kernel)⟩
theorem lw_p99 : lw_okq (⟨"StaveHouse$SoundFile", "skip", "(J)V"⟩, 15) := ⟨⟨by decide +kernel, by decide +kernel⟩, List.mem_of_getElem? (i := 1650) (by decide +kernel), List.mem_of_getElem? (i := 1751) (by decide +kernel), List.mem_of_getElem? (i := 1752) (by decide +kernel)⟩
theorem lw_p100 : lw_okq (⟨"StaveHouse$SoundFile", "loadTrack", "(J)V"⟩, 15) := ⟨⟨by decide +kernel, by decide +kernel⟩, List.mem_of_getElem? (i := 1650) (by decide +kernel), List.mem_of_getElem? (i := 1757) (by decide +kernel), List.mem_of_getElem? (i := 1758) (by decide +kernel)⟩
theorem lw_p101 : lw_okq (⟨"StaveHouse$SoundFile", "loadEvent", "(I)V"⟩, 15) := ⟨⟨by decide +kernel, by decide +kernel⟩, List.mem_of_getElem? (i := 1650) (by decide +kernel), List.mem_of_getElem? (i := 1761) (by decide +kernel), List.mem_of_getElem? (i := 1762) (by decide +kernel)⟩
theorem lw_p102 : lw_okq (⟨"StaveHouse$SoundFile", "takeDelta", "()I"⟩, 15) := ⟨⟨by decide +kernel, by decide +kernel⟩, List.mem_of_getElem? (i := 1650) (by decide +kernel), List.mem_of_getElem? (i := 1765) (by decide +kernel), List.mem_of_getElem? (i := 1766) (by decide +kernel)⟩
theorem lw_p103 : lw_okq (⟨"StaveHouse$SoundFile", "loadMeta", "()V"⟩, 15) := ⟨⟨by decide +kernel, by decide +kernel⟩, List.mem_of_getElem? (i := 1650) (by decide +kernel), List.mem_of_getElem? (i := 1769) (by decide +kernel), List.mem_of_getElem? (i := 1770) (by decide +kernel)⟩
theorem lw_p104 : lw_okq (⟨"StaveHouse$SoundFile", "takeData", "()I"⟩, 15) := ⟨⟨by decide +kernel, by decide +kernel⟩, List.mem_of_getElem? (i := 1650) (by decide +kernel), List.mem_of_getElem? (i := 1773) (by decide +kernel), List.mem_of_getElem? (i := 1774) (by decide +kernel)⟩
theorem lw_p105 : lw_okq (⟨"StaveHouse$SoundFile", "tellTime", "(II)V"⟩, 15) := ⟨⟨by decide +kernel, by decide +kernel⟩, List.mem_of_getElem? (i := 1650) (by decide +kernel), List.mem_of_getElem? (i := 1777) (by decide +kernel), List.mem_of_getElem? (i := 1778) (by decide +kernel)⟩
theorem lw_p106 : lw_okq (⟨"StaveHouse$SoundFile", "tellKey", "(II)V"⟩, 15) := ⟨⟨by decide +kernel, by decide +kernel⟩, List.mem_of_getElem? (i := 1650) (by decide +kernel), List.mem_of_getElem? (i := 1781) (by decide +kernel), List.mem_of_getElem? (i := 1782) (by decide +kernel)⟩
theorem lw_p107 : lw_okq (⟨"StaveHouse$SoundFile", "tellTempo", "(I)V"⟩, 15) := ⟨⟨by decide +kernel, by decide +kernel⟩, List.mem_of_getElem? (i := 1650) (by decide +kernel), List.mem_of_getElem? (i := 1787) (by decide +kernel), List.mem_of_getElem? (i := 1788) (by decide +kernel)⟩
theorem lw_p108 : lw_okq (⟨"StaveHouse$SoundFile", "loadMessage", "(III)V"⟩, 15) := ⟨⟨by decide +kernel, by decide +kernel⟩, List.mem_of_getElem? (i := 1650) (by decide +kernel), List.mem_of_getElem? (i := 1794) (by decide +kernel), List.mem_of_getElem? (i := 1795) (by decide +kernel)⟩
theorem lw_p109 : lw_okq (⟨"StaveHouse$SoundFile", "beginSound", "(III)V"⟩, 15) := ⟨⟨by decide +kernel, by decide +kernel⟩, List.mem_of_getElem? (i := 1650) (by decide +kernel), List.mem_of_getElem? (i := 1798) (by decide +kernel), List.mem_of_getElem? (i := 1799) (by decide +kernel)⟩
theorem lw_p110 : lw_okq (⟨"StaveHouse$SoundFile", "endSound", "(II)V"⟩, 15) := ⟨⟨by decide +kernel, by decide +kernel⟩, List.mem_of_getElem? (i := 1650) (by decide +kernel), List.mem_of_getElem? (i := 1803) (by decide +kernel), List.mem_of_getElem? (i := 1804) (by decide +kernel)⟩
theorem lw_p111 : lw_okq (⟨"StaveHouse$Scribe", "lastPlace", "()J"⟩, 9) := ⟨⟨by decide +kernel, by decide +kernel⟩, List.mem_of_getElem? (i := 249) (by decide +kernel), List.mem_of_getElem? (i := 1825) (by decide +kernel), List.mem_of_getElem? (i := 1826) (by decide +kernel)⟩
def lw_privs_7 : List (MethodName × Nat) := [(⟨"StaveHouse$SoundFile", "refuse", "(II)V"⟩, 15), (⟨"StaveHouse$SoundFile", "takeWide", "(I)J"⟩, 15), (⟨"StaveHouse$SoundFile", "takeBounded", "(IJJ)I"⟩, 15), (⟨"StaveHouse$SoundFile", "skip", "(J)V"⟩, 15), (⟨"StaveHouse$SoundFile", "loadTrack", "(J)V"⟩, 15), (⟨"StaveHouse$SoundFile", "loadEvent", "(I)V"⟩, 15), (⟨"StaveHouse$SoundFile", "takeDelta", "()I"⟩, 15), (⟨"StaveHouse$SoundFile", "loadMeta", "()V"⟩, 15), (⟨"StaveHouse$SoundFile", "takeData", "()I"⟩, 15), (⟨"StaveHouse$SoundFile", "tellTime", "(II)V"⟩, 15), (⟨"StaveHouse$SoundFile", "tellKey", "(II)V"⟩, 15), (⟨"StaveHouse$SoundFile", "tellTempo", "(I)V"⟩, 15), (⟨"StaveHouse$SoundFile", "loadMessage", "(III)V"⟩, 15), (⟨"StaveHouse$SoundFile", "beginSound", "(III)V"⟩, 15), (⟨"StaveHouse$SoundFile", "endSound", "(II)V"⟩, 15), (⟨"StaveHouse$Scribe", "lastPlace", "()J"⟩, 9)]
theorem lw_r7 : ∀ q ∈ lw_privs_7, lw_okq q := List.forall_mem_cons.mpr ⟨lw_p96, List.forall_mem_cons.mpr ⟨lw_p97, List.forall_mem_cons.mpr ⟨lw_p98, List.forall_mem_cons.mpr ⟨lw_p99, List.forall_mem_cons.mpr ⟨lw_p100, List.forall_mem_cons.mpr ⟨lw_p101, List.forall_mem_cons.mpr ⟨lw_p102, List.forall_mem_cons.mpr ⟨lw_p103, List.forall_mem_cons.mpr ⟨lw_p104, List.forall_mem_cons.mpr ⟨lw_p105, List.forall_mem_cons.mpr ⟨lw_p106, List.forall_mem_cons.mpr ⟨lw_p107, List.forall_mem_cons.mpr ⟨lw_p108, List.forall_mem_cons.mpr ⟨lw_p109, List.forall_mem_cons.mpr ⟨lw_p110, List.forall_mem_cons.mpr ⟨lw_p111, fun _ h => absurd h List.not_mem_nil⟩⟩⟩⟩⟩⟩⟩⟩⟩⟩⟩⟩⟩⟩⟩⟩
theorem lw_p112 : lw_okq (⟨"StaveHouse$Scribe", "trackEnd", "(I)I"⟩, 9) := ⟨⟨by decide +kernel, by decide +kernel⟩, List.mem_of_getElem? (i := 249) (by decide +kernel), List.mem_of_getElem? (i := 1829) (by decide +kernel), List.mem_of_getElem? (i := 1830) (by decide +kernel)⟩
theorem lw_p113 : lw_okq (⟨"StaveHouse$Scribe", "gatherEvent", "(II)V"⟩, 9) := ⟨⟨by decide +kernel, by decide +kernel⟩, List.mem_of_getElem? (i := 249) (by decide +kernel), List.mem_of_getElem? (i := 1833) (by decide +kernel), List.mem_of_getElem? (i := 1834) (by decide +kernel)⟩
theorem lw_p114 : lw_okq (⟨"StaveHouse$Scribe", "gridPlace", "(J)J"⟩, 9) := ⟨⟨by decide +kernel, by decide +kernel⟩, List.mem_of_getElem? (i := 249) (by decide +kernel), List.mem_of_getElem? (i := 1837) (by decide +kernel), List.mem_of_getElem? (i := 1838) (by decide +kernel)⟩
theorem lw_p115 : lw_okq (⟨"StaveHouse$Scribe", "writeHead", "()V"⟩, 9) := ⟨⟨by decide +kernel, by decide +kernel⟩, List.mem_of_getElem? (i := 249) (by decide +kernel), List.mem_of_getElem? (i := 1847) (by decide +kernel), List.mem_of_getElem? (i := 1848) (by decide +kernel)⟩
theorem lw_p116 : lw_okq (⟨"StaveHouse$Scribe", "writeVoice", "(III)V"⟩, 9) := ⟨⟨by decide +kernel, by decide +kernel⟩, List.mem_of_getElem? (i := 249) (by decide +kernel), List.mem_of_getElem? (i := 1863) (by decide +kernel), List.mem_of_getElem? (i := 1864) (by decide +kernel)⟩
theorem lw_p117 : lw_okq (⟨"StaveHouse$Scribe", "writeRest", "(II)V"⟩, 9) := ⟨⟨by decide +kernel, by decide +kernel⟩, List.mem_of_getElem? (i := 249) (by decide +kernel), List.mem_of_getElem? (i := 1872) (by decide +kernel), List.mem_of_getElem? (i := 1873) (by decide +kernel)⟩
theorem lw_p118 : lw_okq (⟨"StaveHouse$Scribe", "writeSpan", "(II)V"⟩, 9) := ⟨⟨by decide +kernel, by decide +kernel⟩, List.mem_of_getElem? (i := 249) (by decide +kernel), List.mem_of_getElem? (i := 1876) (by decide +kernel), List.mem_of_getElem? (i := 1877) (by decide +kernel)⟩
theorem lw_p119 : lw_okq (⟨"StaveHouse$Scribe", "writeNote", "(IZ)V"⟩, 9) := ⟨⟨by decide +kernel, by decide +kernel⟩, List.mem_of_getElem? (i := 249) (by decide +kernel), List.mem_of_getElem? (i := 1884) (by decide +kernel), List.mem_of_getElem? (i := 1885) (by decide +kernel)⟩
theorem lw_p120 : lw_okq (⟨"StaveHouse$Scribe", "writePitch", "(II)V"⟩, 9) := ⟨⟨by decide +kernel, by decide +kernel⟩, List.mem_of_getElem? (i := 249) (by decide +kernel), List.mem_of_getElem? (i := 1892) (by decide +kernel), List.mem_of_getElem? (i := 1893) (by decide +kernel)⟩
theorem lw_p121 : lw_okq (⟨"StaveHouse$Scribe", "spellEvent", "()V"⟩, 9) := ⟨⟨by decide +kernel, by decide +kernel⟩, List.mem_of_getElem? (i := 249) (by decide +kernel), List.mem_of_getElem? (i := 1903) (by decide +kernel), List.mem_of_getElem? (i := 1904) (by decide +kernel)⟩
theorem lw_p122 : lw_okq (⟨"StaveHouse$Scribe", "spell", "(I)V"⟩, 9) := ⟨⟨by decide +kernel, by decide +kernel⟩, List.mem_of_getElem? (i := 249) (by decide +kernel), List.mem_of_getElem? (i := 1907) (by decide +kernel), List.mem_of_getElem? (i := 1908) (by decide +kernel)⟩
theorem lw_p123 : lw_okq (⟨"StaveHouse$Performance", "mixSound", "(LStaveHouse$Piece;II)V"⟩, 14) := ⟨⟨by decide +kernel, by decide +kernel⟩, List.mem_of_getElem? (i := 1257) (by decide +kernel), List.mem_of_getElem? (i := 1923) (by decide +kernel), List.mem_of_getElem? (i := 1924) (by decide +kernel)⟩
theorem lw_p124 : lw_okq (⟨"StaveHouse$Performance", "nextCode", "()I"⟩, 14) := ⟨⟨by decide +kernel, by decide +kernel⟩, List.mem_of_getElem? (i := 1257) (by decide +kernel), List.mem_of_getElem? (i := 1943) (by decide +kernel), List.mem_of_getElem? (i := 1944) (by decide +kernel)⟩
theorem lw_p125 : lw_okq (⟨"StaveHouse$Study", "takeClasses", "(LStaveHouse$Piece;I)V"⟩, 11) := ⟨⟨by decide +kernel, by decide +kernel⟩, List.mem_of_getElem? (i := 1151) (by decide +kernel), List.mem_of_getElem? (i := 1964) (by decide +kernel), List.mem_of_getElem? (i := 1965) (by decide +kernel)⟩
theorem lw_p126 : lw_okq (⟨"StaveHouse$Study", "chordKind", "(I)I"⟩, 11) := ⟨⟨by decide +kernel, by decide +kernel⟩, List.mem_of_getElem? (i := 1151) (by decide +kernel), List.mem_of_getElem? (i := 1969) (by decide +kernel), List.mem_of_getElem? (i := 1970) (by decide +kernel)⟩
theorem lw_p127 : lw_okq (⟨"StaveHouse$Study", "tonesAbove", "(II)I"⟩, 11) := ⟨⟨by decide +kernel, by decide +kernel⟩, List.mem_of_getElem? (i := 1151) (by decide +kernel), List.mem_of_getElem? (i := 1973) (by decide +kernel), List.mem_of_getElem? (i := 1974) (by decide +kernel)⟩
def lw_privs_8 : List (MethodName × Nat) := [(⟨"StaveHouse$Scribe", "trackEnd", "(I)I"⟩, 9), (⟨"StaveHouse$Scribe", "gatherEvent", "(II)V"⟩, 9), (⟨"StaveHouse$Scribe", "gridPlace", "(J)J"⟩, 9), (⟨"StaveHouse$Scribe", "writeHead", "()V"⟩, 9), (⟨"StaveHouse$Scribe", "writeVoice", "(III)V"⟩, 9), (⟨"StaveHouse$Scribe", "writeRest", "(II)V"⟩, 9), (⟨"StaveHouse$Scribe", "writeSpan", "(II)V"⟩, 9), (⟨"StaveHouse$Scribe", "writeNote", "(IZ)V"⟩, 9), (⟨"StaveHouse$Scribe", "writePitch", "(II)V"⟩, 9), (⟨"StaveHouse$Scribe", "spellEvent", "()V"⟩, 9), (⟨"StaveHouse$Scribe", "spell", "(I)V"⟩, 9), (⟨"StaveHouse$Performance", "mixSound", "(LStaveHouse$Piece;II)V"⟩, 14), (⟨"StaveHouse$Performance", "nextCode", "()I"⟩, 14), (⟨"StaveHouse$Study", "takeClasses", "(LStaveHouse$Piece;I)V"⟩, 11), (⟨"StaveHouse$Study", "chordKind", "(I)I"⟩, 11), (⟨"StaveHouse$Study", "tonesAbove", "(II)I"⟩, 11)]
theorem lw_r8 : ∀ q ∈ lw_privs_8, lw_okq q := List.forall_mem_cons.mpr ⟨lw_p112, List.forall_mem_cons.mpr ⟨lw_p113, List.forall_mem_cons.mpr ⟨lw_p114, List.forall_mem_cons.mpr ⟨lw_p115, List.forall_mem_cons.mpr ⟨lw_p116, List.forall_mem_cons.mpr ⟨lw_p117, List.forall_mem_cons.mpr ⟨lw_p118, List.forall_mem_cons.mpr ⟨lw_p119, List.forall_mem_cons.mpr ⟨lw_p120, List.forall_mem_cons.mpr ⟨lw_p121, List.forall_mem_cons.mpr ⟨lw_p122, List.forall_mem_cons.mpr ⟨lw_p123, List.forall_mem_cons.mpr ⟨lw_p124, List.forall_mem_cons.mpr ⟨lw_p125, List.forall_mem_cons.mpr ⟨lw_p126, List.forall_mem_cons.mpr ⟨lw_p127, fun _ h => absurd h List.not_mem_nil⟩⟩⟩⟩⟩⟩⟩⟩⟩⟩⟩⟩⟩⟩⟩⟩
theorem lw_p128 : lw_okq (⟨"StaveHouse$Study", "alterationOf", "(I)I"⟩, 11) := ⟨⟨by decide +kernel, by decide +kernel⟩, List.mem_of_getElem? (i := 1151) (by decide +kernel), List.mem_of_getElem? (i := 1978) (by decide +kernel), List.mem_of_getElem? (i := 1979) (by decide +kernel)⟩
theorem lw_p129 : lw_okq (⟨"StaveHouse$Study", "bassLetter", "(LStaveHouse$Piece;I)I"⟩, 11) := ⟨⟨by decide +kernel, by decide +kernel⟩, List.mem_of_getElem? (i := 1151) (by decide +kernel), List.mem_of_getElem? (i := 1986) (by decide +kernel), List.mem_of_getElem? (i := 1987) (by decide +kernel)⟩
theorem lw_p130 : lw_okq (⟨"StaveHouse$Study", "isForeign", "(LStaveHouse$Piece;)Z"⟩, 11) := ⟨⟨by decide +kernel, by decide +kernel⟩, List.mem_of_getElem? (i := 1151) (by decide +kernel), List.mem_of_getElem? (i := 1993) (by decide +kernel), List.mem_of_getElem? (i := 1994) (by decide +kernel)⟩
theorem lw_p131 : lw_okq (⟨"StaveHouseModel", "piece", "(I)LStaveHouseModel$Piece;"⟩, 107) := ⟨⟨by decide +kernel, by decide +kernel⟩, List.mem_of_getElem? (i := 2033) (by decide +kernel), List.mem_of_getElem? (i := 2733) (by decide +kernel), List.mem_of_getElem? (i := 2734) (by decide +kernel)⟩
theorem lw_p132 : lw_okq (⟨"StaveHouseModel", "gather", "(LStaveHouseModel$Piece;)I"⟩, 107) := ⟨⟨by decide +kernel, by decide +kernel⟩, List.mem_of_getElem? (i := 2033) (by decide +kernel), List.mem_of_getElem? (i := 2766) (by decide +kernel), List.mem_of_getElem? (i := 2767) (by decide +kernel)⟩
theorem lw_p133 : lw_okq (⟨"StaveHouseModel", "trill", "(LStaveHouseModel$Piece;IIII)V"⟩, 107) := ⟨⟨by decide +kernel, by decide +kernel⟩, List.mem_of_getElem? (i := 2033) (by decide +kernel), List.mem_of_getElem? (i := 2776) (by decide +kernel), List.mem_of_getElem? (i := 2777) (by decide +kernel)⟩
theorem lw_p134 : lw_okq (⟨"StaveHouseModel", "endTick", "(LStaveHouseModel$Piece;I)I"⟩, 107) := ⟨⟨by decide +kernel, by decide +kernel⟩, List.mem_of_getElem? (i := 2033) (by decide +kernel), List.mem_of_getElem? (i := 2784) (by decide +kernel), List.mem_of_getElem? (i := 2785) (by decide +kernel)⟩
theorem lw_p135 : lw_okq (⟨"StaveHouseModel", "plus", "(JJJJ)V"⟩, 107) := ⟨⟨by decide +kernel, by decide +kernel⟩, List.mem_of_getElem? (i := 2033) (by decide +kernel), List.mem_of_getElem? (i := 2788) (by decide +kernel), List.mem_of_getElem? (i := 2789) (by decide +kernel)⟩
theorem lw_p136 : lw_okq (⟨"StaveHouseModel", "is", "(JJ)V"⟩, 107) := ⟨⟨by decide +kernel, by decide +kernel⟩, List.mem_of_getElem? (i := 2033) (by decide +kernel), List.mem_of_getElem? (i := 2795) (by decide +kernel), List.mem_of_getElem? (i := 2796) (by decide +kernel)⟩
theorem lw_p137 : lw_okq (⟨"StaveHouseModel", "forceOf", "(LStaveHouseModel$Piece;I)I"⟩, 107) := ⟨⟨by decide +kernel, by decide +kernel⟩, List.mem_of_getElem? (i := 2033) (by decide +kernel), List.mem_of_getElem? (i := 2811) (by decide +kernel), List.mem_of_getElem? (i := 2812) (by decide +kernel)⟩
theorem lw_p138 : lw_okq (⟨"StaveHouseModel", "sound", "(IIIIII)V"⟩, 107) := ⟨⟨by decide +kernel, by decide +kernel⟩, List.mem_of_getElem? (i := 2033) (by decide +kernel), List.mem_of_getElem? (i := 2815) (by decide +kernel), List.mem_of_getElem? (i := 2816) (by decide +kernel)⟩
theorem lw_p139 : lw_okq (⟨"StaveHouseModel", "plain", "(LStaveHouseModel$Piece;IIII)V"⟩, 107) := ⟨⟨by decide +kernel, by decide +kernel⟩, List.mem_of_getElem? (i := 2033) (by decide +kernel), List.mem_of_getElem? (i := 2819) (by decide +kernel), List.mem_of_getElem? (i := 2820) (by decide +kernel)⟩
theorem lw_p140 : lw_okq (⟨"StaveHouseModel", "isAhead", "(II)Z"⟩, 107) := ⟨⟨by decide +kernel, by decide +kernel⟩, List.mem_of_getElem? (i := 2033) (by decide +kernel), List.mem_of_getElem? (i := 2823) (by decide +kernel), List.mem_of_getElem? (i := 2824) (by decide +kernel)⟩
theorem lw_p141 : lw_okq (⟨"StaveHouseModel", "put", "(Ljava/lang/String;)V"⟩, 107) := ⟨⟨by decide +kernel, by decide +kernel⟩, List.mem_of_getElem? (i := 2033) (by decide +kernel), List.mem_of_getElem? (i := 2836) (by decide +kernel), List.mem_of_getElem? (i := 2837) (by decide +kernel)⟩
theorem lw_p142 : lw_okq (⟨"StaveHouseModel", "put", "(I)V"⟩, 107) := ⟨⟨by decide +kernel, by decide +kernel⟩, List.mem_of_getElem? (i := 2033) (by decide +kernel), List.mem_of_getElem? (i := 2840) (by decide +kernel), List.mem_of_getElem? (i := 2841) (by decide +kernel)⟩
theorem lw_p143 : lw_okq (⟨"StaveHouseModel", "four", "(I)V"⟩, 107) := ⟨⟨by decide +kernel, by decide +kernel⟩, List.mem_of_getElem? (i := 2033) (by decide +kernel), List.mem_of_getElem? (i := 2844) (by decide +kernel), List.mem_of_getElem? (i := 2845) (by decide +kernel)⟩
def lw_privs_9 : List (MethodName × Nat) := [(⟨"StaveHouse$Study", "alterationOf", "(I)I"⟩, 11), (⟨"StaveHouse$Study", "bassLetter", "(LStaveHouse$Piece;I)I"⟩, 11), (⟨"StaveHouse$Study", "isForeign", "(LStaveHouse$Piece;)Z"⟩, 11), (⟨"StaveHouseModel", "piece", "(I)LStaveHouseModel$Piece;"⟩, 107), (⟨"StaveHouseModel", "gather", "(LStaveHouseModel$Piece;)I"⟩, 107), (⟨"StaveHouseModel", "trill", "(LStaveHouseModel$Piece;IIII)V"⟩, 107), (⟨"StaveHouseModel", "endTick", "(LStaveHouseModel$Piece;I)I"⟩, 107), (⟨"StaveHouseModel", "plus", "(JJJJ)V"⟩, 107), (⟨"StaveHouseModel", "is", "(JJ)V"⟩, 107), (⟨"StaveHouseModel", "forceOf", "(LStaveHouseModel$Piece;I)I"⟩, 107), (⟨"StaveHouseModel", "sound", "(IIIIII)V"⟩, 107), (⟨"StaveHouseModel", "plain", "(LStaveHouseModel$Piece;IIII)V"⟩, 107), (⟨"StaveHouseModel", "isAhead", "(II)Z"⟩, 107), (⟨"StaveHouseModel", "put", "(Ljava/lang/String;)V"⟩, 107), (⟨"StaveHouseModel", "put", "(I)V"⟩, 107), (⟨"StaveHouseModel", "four", "(I)V"⟩, 107)]
theorem lw_r9 : ∀ q ∈ lw_privs_9, lw_okq q := List.forall_mem_cons.mpr ⟨lw_p128, List.forall_mem_cons.mpr ⟨lw_p129, List.forall_mem_cons.mpr ⟨lw_p130, List.forall_mem_cons.mpr ⟨lw_p131, List.forall_mem_cons.mpr ⟨lw_p132, List.forall_mem_cons.mpr ⟨lw_p133, List.forall_mem_cons.mpr ⟨lw_p134, List.forall_mem_cons.mpr ⟨lw_p135, List.forall_mem_cons.mpr ⟨lw_p136, List.forall_mem_cons.mpr ⟨lw_p137, List.forall_mem_cons.mpr ⟨lw_p138, List.forall_mem_cons.mpr ⟨lw_p139, List.forall_mem_cons.mpr ⟨lw_p140, List.forall_mem_cons.mpr ⟨lw_p141, List.forall_mem_cons.mpr ⟨lw_p142, List.forall_mem_cons.mpr ⟨lw_p143, fun _ h => absurd h List.not_mem_nil⟩⟩⟩⟩⟩⟩⟩⟩⟩⟩⟩⟩⟩⟩⟩⟩
theorem lw_p144 : lw_okq (⟨"StaveHouseModel", "beginTrack", "()I"⟩, 107) := ⟨⟨by decide +kernel, by decide +kernel⟩, List.mem_of_getElem? (i := 2033) (by decide +kernel), List.mem_of_getElem? (i := 2848) (by decide +kernel), List.mem_of_getElem? (i := 2849) (by decide +kernel)⟩
theorem lw_p145 : lw_okq (⟨"StaveHouseModel", "endTrack", "(I)V"⟩, 107) := ⟨⟨by decide +kernel, by decide +kernel⟩, List.mem_of_getElem? (i := 2033) (by decide +kernel), List.mem_of_getElem? (i := 2854) (by decide +kernel), List.mem_of_getElem? (i := 2855) (by decide +kernel)⟩
theorem lw_p146 : lw_okq (⟨"StaveHouseModel", "voiceTrack", "(LStaveHouseModel$Piece;I)V"⟩, 107) := ⟨⟨by decide +kernel, by decide +kernel⟩, List.mem_of_getElem? (i := 2033) (by decide +kernel), List.mem_of_getElem? (i := 2858) (by decide +kernel), List.mem_of_getElem? (i := 2859) (by decide +kernel)⟩
theorem lw_p147 : lw_okq (⟨"StaveHouseModel", "word", "(J)V"⟩, 107) := ⟨⟨by decide +kernel, by decide +kernel⟩, List.mem_of_getElem? (i := 2033) (by decide +kernel), List.mem_of_getElem? (i := 2862) (by decide +kernel), List.mem_of_getElem? (i := 2863) (by decide +kernel)⟩
theorem lw_p148 : lw_okq (⟨"StaveHouseModel", "delta", "(I)V"⟩, 107) := ⟨⟨by decide +kernel, by decide +kernel⟩, List.mem_of_getElem? (i := 2033) (by decide +kernel), List.mem_of_getElem? (i := 2867) (by decide +kernel), List.mem_of_getElem? (i := 2868) (by decide +kernel)⟩
theorem lw_p149 : lw_okq (⟨"StaveHouseModel", "header", "()J"⟩, 107) := ⟨⟨by decide +kernel, by decide +kernel⟩, List.mem_of_getElem? (i := 2033) (by decide +kernel), List.mem_of_getElem? (i := 2884) (by decide +kernel), List.mem_of_getElem? (i := 2885) (by decide +kernel)⟩
theorem lw_p150 : lw_okq (⟨"StaveHouseModel", "expect", "(Ljava/lang/String;)V"⟩, 107) := ⟨⟨by decide +kernel, by decide +kernel⟩, List.mem_of_getElem? (i := 2033) (by decide +kernel), List.mem_of_getElem? (i := 2888) (by decide +kernel), List.mem_of_getElem? (i := 2889) (by decide +kernel)⟩
theorem lw_p151 : lw_okq (⟨"StaveHouseModel", "next", "()I"⟩, 107) := ⟨⟨by decide +kernel, by decide +kernel⟩, List.mem_of_getElem? (i := 2033) (by decide +kernel), List.mem_of_getElem? (i := 2892) (by decide +kernel), List.mem_of_getElem? (i := 2893) (by decide +kernel)⟩
theorem lw_p152 : lw_okq (⟨"StaveHouseModel", "good", "()Z"⟩, 107) := ⟨⟨by decide +kernel, by decide +kernel⟩, List.mem_of_getElem? (i := 2033) (by decide +kernel), List.mem_of_getElem? (i := 2896) (by decide +kernel), List.mem_of_getElem? (i := 2897) (by decide +kernel)⟩
theorem lw_p153 : lw_okq (⟨"StaveHouseModel", "failByte", "(II)V"⟩, 107) := ⟨⟨by decide +kernel, by decide +kernel⟩, List.mem_of_getElem? (i := 2033) (by decide +kernel), List.mem_of_getElem? (i := 2900) (by decide +kernel), List.mem_of_getElem? (i := 2901) (by decide +kernel)⟩
theorem lw_p154 : lw_okq (⟨"StaveHouseModel", "byteAt", "(I)I"⟩, 107) := ⟨⟨by decide +kernel, by decide +kernel⟩, List.mem_of_getElem? (i := 2033) (by decide +kernel), List.mem_of_getElem? (i := 2904) (by decide +kernel), List.mem_of_getElem? (i := 2905) (by decide +kernel)⟩
theorem lw_p155 : lw_okq (⟨"StaveHouseModel", "whole", "(I)J"⟩, 107) := ⟨⟨by decide +kernel, by decide +kernel⟩, List.mem_of_getElem? (i := 2033) (by decide +kernel), List.mem_of_getElem? (i := 2908) (by decide +kernel), List.mem_of_getElem? (i := 2909) (by decide +kernel)⟩
theorem lw_p156 : lw_okq (⟨"StaveHouseModel", "within", "(III)I"⟩, 107) := ⟨⟨by decide +kernel, by decide +kernel⟩, List.mem_of_getElem? (i := 2033) (by decide +kernel), List.mem_of_getElem? (i := 2913) (by decide +kernel), List.mem_of_getElem? (i := 2914) (by decide +kernel)⟩
theorem lw_p157 : lw_okq (⟨"StaveHouseModel", "isTrack", "()Z"⟩, 107) := ⟨⟨by decide +kernel, by decide +kernel⟩, List.mem_of_getElem? (i := 2033) (by decide +kernel), List.mem_of_getElem? (i := 2917) (by decide +kernel), List.mem_of_getElem? (i := 2918) (by decide +kernel)⟩
theorem lw_p158 : lw_okq (⟨"StaveHouseModel", "track0", "(I)V"⟩, 107) := ⟨⟨by decide +kernel, by decide +kernel⟩, List.mem_of_getElem? (i := 2033) (by decide +kernel), List.mem_of_getElem? (i := 2921) (by decide +kernel), List.mem_of_getElem? (i := 2922) (by decide +kernel)⟩
theorem lw_p159 : lw_okq (⟨"StaveHouseModel", "seven", "()I"⟩, 107) := ⟨⟨by decide +kernel, by decide +kernel⟩, List.mem_of_getElem? (i := 2033) (by decide +kernel), List.mem_of_getElem? (i := 2925) (by decide +kernel), List.mem_of_getElem? (i := 2926) (by decide +kernel)⟩
def lw_privs_10 : List (MethodName × Nat) := [(⟨"StaveHouseModel", "beginTrack", "()I"⟩, 107), (⟨"StaveHouseModel", "endTrack", "(I)V"⟩, 107), (⟨"StaveHouseModel", "voiceTrack", "(LStaveHouseModel$Piece;I)V"⟩, 107), (⟨"StaveHouseModel", "word", "(J)V"⟩, 107), (⟨"StaveHouseModel", "delta", "(I)V"⟩, 107), (⟨"StaveHouseModel", "header", "()J"⟩, 107), (⟨"StaveHouseModel", "expect", "(Ljava/lang/String;)V"⟩, 107), (⟨"StaveHouseModel", "next", "()I"⟩, 107), (⟨"StaveHouseModel", "good", "()Z"⟩, 107), (⟨"StaveHouseModel", "failByte", "(II)V"⟩, 107), (⟨"StaveHouseModel", "byteAt", "(I)I"⟩, 107), (⟨"StaveHouseModel", "whole", "(I)J"⟩, 107), (⟨"StaveHouseModel", "within", "(III)I"⟩, 107), (⟨"StaveHouseModel", "isTrack", "()Z"⟩, 107), (⟨"StaveHouseModel", "track0", "(I)V"⟩, 107), (⟨"StaveHouseModel", "seven", "()I"⟩, 107)]
theorem lw_r10 : ∀ q ∈ lw_privs_10, lw_okq q := List.forall_mem_cons.mpr ⟨lw_p144, List.forall_mem_cons.mpr ⟨lw_p145, List.forall_mem_cons.mpr ⟨lw_p146, List.forall_mem_cons.mpr ⟨lw_p147, List.forall_mem_cons.mpr ⟨lw_p148, List.forall_mem_cons.mpr ⟨lw_p149, List.forall_mem_cons.mpr ⟨lw_p150, List.forall_mem_cons.mpr ⟨lw_p151, List.forall_mem_cons.mpr ⟨lw_p152, List.forall_mem_cons.mpr ⟨lw_p153, List.forall_mem_cons.mpr ⟨lw_p154, List.forall_mem_cons.mpr ⟨lw_p155, List.forall_mem_cons.mpr ⟨lw_p156, List.forall_mem_cons.mpr ⟨lw_p157, List.forall_mem_cons.mpr ⟨lw_p158, List.forall_mem_cons.mpr ⟨lw_p159, fun _ h => absurd h List.not_mem_nil⟩⟩⟩⟩⟩⟩⟩⟩⟩⟩⟩⟩⟩⟩⟩⟩
theorem lw_p160 : lw_okq (⟨"StaveHouseModel", "meta", "()Z"⟩, 107) := ⟨⟨by decide +kernel, by decide +kernel⟩, List.mem_of_getElem? (i := 2033) (by decide +kernel), List.mem_of_getElem? (i := 2929) (by decide +kernel), List.mem_of_getElem? (i := 2930) (by decide +kernel)⟩
theorem lw_p161 : lw_okq (⟨"StaveHouseModel", "below", "()I"⟩, 107) := ⟨⟨by decide +kernel, by decide +kernel⟩, List.mem_of_getElem? (i := 2033) (by decide +kernel), List.mem_of_getElem? (i := 2933) (by decide +kernel), List.mem_of_getElem? (i := 2934) (by decide +kernel)⟩
theorem lw_p162 : lw_okq (⟨"StaveHouseModel", "event", "(IIIIIJI)V"⟩, 107) := ⟨⟨by decide +kernel, by decide +kernel⟩, List.mem_of_getElem? (i := 2033) (by decide +kernel), List.mem_of_getElem? (i := 2937) (by decide +kernel), List.mem_of_getElem? (i := 2938) (by decide +kernel)⟩
theorem lw_p163 : lw_okq (⟨"StaveHouseModel", "keep", "()V"⟩, 107) := ⟨⟨by decide +kernel, by decide +kernel⟩, List.mem_of_getElem? (i := 2033) (by decide +kernel), List.mem_of_getElem? (i := 2941) (by decide +kernel), List.mem_of_getElem? (i := 2942) (by decide +kernel)⟩
theorem lw_p164 : lw_okq (⟨"StaveHouseModel", "hasSounds", "(I)Z"⟩, 107) := ⟨⟨by decide +kernel, by decide +kernel⟩, List.mem_of_getElem? (i := 2033) (by decide +kernel), List.mem_of_getElem? (i := 2958) (by decide +kernel), List.mem_of_getElem? (i := 2959) (by decide +kernel)⟩
theorem lw_p165 : lw_okq (⟨"StaveHouseModel", "trackEvents", "(III)J"⟩, 107) := ⟨⟨by decide +kernel, by decide +kernel⟩, List.mem_of_getElem? (i := 2033) (by decide +kernel), List.mem_of_getElem? (i := 2962) (by decide +kernel), List.mem_of_getElem? (i := 2963) (by decide +kernel)⟩
theorem lw_p166 : lw_okq (⟨"StaveHouseModel", "gridPlace", "(JI)J"⟩, 107) := ⟨⟨by decide +kernel, by decide +kernel⟩, List.mem_of_getElem? (i := 2033) (by decide +kernel), List.mem_of_getElem? (i := 2966) (by decide +kernel), List.mem_of_getElem? (i := 2967) (by decide +kernel)⟩
theorem lw_p167 : lw_okq (⟨"StaveHouseModel", "downEvent", "(IJII)V"⟩, 107) := ⟨⟨by decide +kernel, by decide +kernel⟩, List.mem_of_getElem? (i := 2033) (by decide +kernel), List.mem_of_getElem? (i := 2972) (by decide +kernel), List.mem_of_getElem? (i := 2973) (by decide +kernel)⟩
theorem lw_p168 : lw_okq (⟨"StaveHouseModel", "spell", "(II)V"⟩, 107) := ⟨⟨by decide +kernel, by decide +kernel⟩, List.mem_of_getElem? (i := 2033) (by decide +kernel), List.mem_of_getElem? (i := 2976) (by decide +kernel), List.mem_of_getElem? (i := 2977) (by decide +kernel)⟩
theorem lw_p169 : lw_okq (⟨"StaveHouseModel", "six", "(II)I"⟩, 107) := ⟨⟨by decide +kernel, by decide +kernel⟩, List.mem_of_getElem? (i := 2033) (by decide +kernel), List.mem_of_getElem? (i := 2980) (by decide +kernel), List.mem_of_getElem? (i := 2981) (by decide +kernel)⟩
theorem lw_p170 : lw_okq (⟨"StaveHouseModel", "downHeads", "()V"⟩, 107) := ⟨⟨by decide +kernel, by decide +kernel⟩, List.mem_of_getElem? (i := 2033) (by decide +kernel), List.mem_of_getElem? (i := 2988) (by decide +kernel), List.mem_of_getElem? (i := 2989) (by decide +kernel)⟩
theorem lw_p171 : lw_okq (⟨"StaveHouseModel", "digits", "(I)V"⟩, 107) := ⟨⟨by decide +kernel, by decide +kernel⟩, List.mem_of_getElem? (i := 2033) (by decide +kernel), List.mem_of_getElem? (i := 2993) (by decide +kernel), List.mem_of_getElem? (i := 2994) (by decide +kernel)⟩
theorem lw_p172 : lw_okq (⟨"StaveHouseModel", "downVoice", "(IJI)V"⟩, 107) := ⟨⟨by decide +kernel, by decide +kernel⟩, List.mem_of_getElem? (i := 2033) (by decide +kernel), List.mem_of_getElem? (i := 3001) (by decide +kernel), List.mem_of_getElem? (i := 3002) (by decide +kernel)⟩
theorem lw_p173 : lw_okq (⟨"StaveHouseModel", "places", "(LStaveHouseModel$Piece;I)V"⟩, 107) := ⟨⟨by decide +kernel, by decide +kernel⟩, List.mem_of_getElem? (i := 2033) (by decide +kernel), List.mem_of_getElem? (i := 3009) (by decide +kernel), List.mem_of_getElem? (i := 3010) (by decide +kernel)⟩
theorem lw_p174 : lw_okq (⟨"StaveHouseModel", "minus", "(JJJJ)V"⟩, 107) := ⟨⟨by decide +kernel, by decide +kernel⟩, List.mem_of_getElem? (i := 2033) (by decide +kernel), List.mem_of_getElem? (i := 3013) (by decide +kernel), List.mem_of_getElem? (i := 3014) (by decide +kernel)⟩
theorem lw_p175 : lw_okq (⟨"StaveHouseModel", "notes", "(LStaveHouseModel$Piece;IZ)I"⟩, 107) := ⟨⟨by decide +kernel, by decide +kernel⟩, List.mem_of_getElem? (i := 2033) (by decide +kernel), List.mem_of_getElem? (i := 3017) (by decide +kernel), List.mem_of_getElem? (i := 3018) (by decide +kernel)⟩
def lw_privs_11 : List (MethodName × Nat) := [(⟨"StaveHouseModel", "meta", "()Z"⟩, 107), (⟨"StaveHouseModel", "below", "()I"⟩, 107), (⟨"StaveHouseModel", "event", "(IIIIIJI)V"⟩, 107), (⟨"StaveHouseModel", "keep", "()V"⟩, 107), (⟨"StaveHouseModel", "hasSounds", "(I)Z"⟩, 107), (⟨"StaveHouseModel", "trackEvents", "(III)J"⟩, 107), (⟨"StaveHouseModel", "gridPlace", "(JI)J"⟩, 107), (⟨"StaveHouseModel", "downEvent", "(IJII)V"⟩, 107), (⟨"StaveHouseModel", "spell", "(II)V"⟩, 107), (⟨"StaveHouseModel", "six", "(II)I"⟩, 107), (⟨"StaveHouseModel", "downHeads", "()V"⟩, 107), (⟨"StaveHouseModel", "digits", "(I)V"⟩, 107), (⟨"StaveHouseModel", "downVoice", "(IJI)V"⟩, 107), (⟨"StaveHouseModel", "places", "(LStaveHouseModel$Piece;I)V"⟩, 107), (⟨"StaveHouseModel", "minus", "(JJJJ)V"⟩, 107), (⟨"StaveHouseModel", "notes", "(LStaveHouseModel$Piece;IZ)I"⟩, 107)]
theorem lw_r11 : ∀ q ∈ lw_privs_11, lw_okq q := List.forall_mem_cons.mpr ⟨lw_p160, List.forall_mem_cons.mpr ⟨lw_p161, List.forall_mem_cons.mpr ⟨lw_p162, List.forall_mem_cons.mpr ⟨lw_p163, List.forall_mem_cons.mpr ⟨lw_p164, List.forall_mem_cons.mpr ⟨lw_p165, List.forall_mem_cons.mpr ⟨lw_p166, List.forall_mem_cons.mpr ⟨lw_p167, List.forall_mem_cons.mpr ⟨lw_p168, List.forall_mem_cons.mpr ⟨lw_p169, List.forall_mem_cons.mpr ⟨lw_p170, List.forall_mem_cons.mpr ⟨lw_p171, List.forall_mem_cons.mpr ⟨lw_p172, List.forall_mem_cons.mpr ⟨lw_p173, List.forall_mem_cons.mpr ⟨lw_p174, List.forall_mem_cons.mpr ⟨lw_p175, fun _ h => absurd h List.not_mem_nil⟩⟩⟩⟩⟩⟩⟩⟩⟩⟩⟩⟩⟩⟩⟩⟩
theorem lw_p176 : lw_okq (⟨"StaveHouseModel", "pieces", "(LStaveHouseModel$Piece;IIJJJJZ)V"⟩, 107) := ⟨⟨by decide +kernel, by decide +kernel⟩, List.mem_of_getElem? (i := 2033) (by decide +kernel), List.mem_of_getElem? (i := 3021) (by decide +kernel), List.mem_of_getElem? (i := 3022) (by decide +kernel)⟩
theorem lw_p177 : lw_okq (⟨"StaveHouseModel", "part", "(LStaveHouseModel$Piece;IIIJJZ)V"⟩, 107) := ⟨⟨by decide +kernel, by decide +kernel⟩, List.mem_of_getElem? (i := 2033) (by decide +kernel), List.mem_of_getElem? (i := 3028) (by decide +kernel), List.mem_of_getElem? (i := 3029) (by decide +kernel)⟩
theorem lw_p178 : lw_okq (⟨"StaveHouseModel", "note", "(LStaveHouseModel$Piece;IIIII)V"⟩, 107) := ⟨⟨by decide +kernel, by decide +kernel⟩, List.mem_of_getElem? (i := 2033) (by decide +kernel), List.mem_of_getElem? (i := 3032) (by decide +kernel), List.mem_of_getElem? (i := 3033) (by decide +kernel)⟩
theorem lw_p179 : lw_okq (⟨"StaveHouseModel", "times", "(JJJJ)V"⟩, 107) := ⟨⟨by decide +kernel, by decide +kernel⟩, List.mem_of_getElem? (i := 2033) (by decide +kernel), List.mem_of_getElem? (i := 3036) (by decide +kernel), List.mem_of_getElem? (i := 3037) (by decide +kernel)⟩
theorem lw_p180 : lw_okq (⟨"StaveHouseModel", "choose", "(LStaveHouseModel$Piece;Z)Z"⟩, 107) := ⟨⟨by decide +kernel, by decide +kernel⟩, List.mem_of_getElem? (i := 2033) (by decide +kernel), List.mem_of_getElem? (i := 3040) (by decide +kernel), List.mem_of_getElem? (i := 3041) (by decide +kernel)⟩
theorem lw_p181 : lw_okq (⟨"StaveHouseModel", "stands", "(LStaveHouseModel$Piece;JJ)Z"⟩, 107) := ⟨⟨by decide +kernel, by decide +kernel⟩, List.mem_of_getElem? (i := 2033) (by decide +kernel), List.mem_of_getElem? (i := 3052) (by decide +kernel), List.mem_of_getElem? (i := 3053) (by decide +kernel)⟩
theorem lw_p182 : lw_okq (⟨"StaveHouseModel", "strength", "(LStaveHouseModel$Piece;JJ)I"⟩, 107) := ⟨⟨by decide +kernel, by decide +kernel⟩, List.mem_of_getElem? (i := 2033) (by decide +kernel), List.mem_of_getElem? (i := 3056) (by decide +kernel), List.mem_of_getElem? (i := 3057) (by decide +kernel)⟩
theorem lw_p183 : lw_okq (⟨"StaveHouseModel", "between", "(LStaveHouseModel$Piece;JJJJ)I"⟩, 107) := ⟨⟨by decide +kernel, by decide +kernel⟩, List.mem_of_getElem? (i := 2033) (by decide +kernel), List.mem_of_getElem? (i := 3069) (by decide +kernel), List.mem_of_getElem? (i := 3070) (by decide +kernel)⟩
theorem lw_p184 : lw_okq (⟨"StaveHouseModel", "downNote", "(IIZ)V"⟩, 107) := ⟨⟨by decide +kernel, by decide +kernel⟩, List.mem_of_getElem? (i := 2033) (by decide +kernel), List.mem_of_getElem? (i := 3076) (by decide +kernel), List.mem_of_getElem? (i := 3077) (by decide +kernel)⟩
theorem lw_p185 : lw_okq (⟨"StaveHouseModel", "mixed", "(LStaveHouseModel$Piece;I)I"⟩, 107) := ⟨⟨by decide +kernel, by decide +kernel⟩, List.mem_of_getElem? (i := 2033) (by decide +kernel), List.mem_of_getElem? (i := 3088) (by decide +kernel), List.mem_of_getElem? (i := 3089) (by decide +kernel)⟩
theorem lw_p186 : lw_okq (⟨"StaveHouseModel", "turn", "(I)J"⟩, 107) := ⟨⟨by decide +kernel, by decide +kernel⟩, List.mem_of_getElem? (i := 2033) (by decide +kernel), List.mem_of_getElem? (i := 3093) (by decide +kernel), List.mem_of_getElem? (i := 3094) (by decide +kernel)⟩
theorem lw_p187 : lw_okq (⟨"StaveHouseModel", "coded", "(LStaveHouseModel$Piece;)I"⟩, 107) := ⟨⟨by decide +kernel, by decide +kernel⟩, List.mem_of_getElem? (i := 2033) (by decide +kernel), List.mem_of_getElem? (i := 3125) (by decide +kernel), List.mem_of_getElem? (i := 3126) (by decide +kernel)⟩
theorem lw_p188 : lw_okq (⟨"StaveHouseModel", "chordAt", "(LStaveHouseModel$Piece;I)V"⟩, 107) := ⟨⟨by decide +kernel, by decide +kernel⟩, List.mem_of_getElem? (i := 2033) (by decide +kernel), List.mem_of_getElem? (i := 3138) (by decide +kernel), List.mem_of_getElem? (i := 3139) (by decide +kernel)⟩
theorem lw_p189 : lw_okq (⟨"StaveHouseModel", "classesAt", "(LStaveHouseModel$Piece;I)V"⟩, 107) := ⟨⟨by decide +kernel, by decide +kernel⟩, List.mem_of_getElem? (i := 2033) (by decide +kernel), List.mem_of_getElem? (i := 3142) (by decide +kernel), List.mem_of_getElem? (i := 3143) (by decide +kernel)⟩
theorem lw_p190 : lw_okq (⟨"StaveHouseModel", "classOf", "(II)V"⟩, 107) := ⟨⟨by decide +kernel, by decide +kernel⟩, List.mem_of_getElem? (i := 2033) (by decide +kernel), List.mem_of_getElem? (i := 3146) (by decide +kernel), List.mem_of_getElem? (i := 3147) (by decide +kernel)⟩
theorem lw_p191 : lw_okq (⟨"StaveHouseModel", "kindOn", "(I)I"⟩, 107) := ⟨⟨by decide +kernel, by decide +kernel⟩, List.mem_of_getElem? (i := 2033) (by decide +kernel), List.mem_of_getElem? (i := 3150) (by decide +kernel), List.mem_of_getElem? (i := 3151) (by decide +kernel)⟩
def lw_privs_12 : List (MethodName × Nat) := [(⟨"StaveHouseModel", "pieces", "(LStaveHouseModel$Piece;IIJJJJZ)V"⟩, 107), (⟨"StaveHouseModel", "part", "(LStaveHouseModel$Piece;IIIJJZ)V"⟩, 107), (⟨"StaveHouseModel", "note", "(LStaveHouseModel$Piece;IIIII)V"⟩, 107), (⟨"StaveHouseModel", "times", "(JJJJ)V"⟩, 107), (⟨"StaveHouseModel", "choose", "(LStaveHouseModel$Piece;Z)Z"⟩, 107), (⟨"StaveHouseModel", "stands", "(LStaveHouseModel$Piece;JJ)Z"⟩, 107), (⟨"StaveHouseModel", "strength", "(LStaveHouseModel$Piece;JJ)I"⟩, 107), (⟨"StaveHouseModel", "between", "(LStaveHouseModel$Piece;JJJJ)I"⟩, 107), (⟨"StaveHouseModel", "downNote", "(IIZ)V"⟩, 107), (⟨"StaveHouseModel", "mixed", "(LStaveHouseModel$Piece;I)I"⟩, 107), (⟨"StaveHouseModel", "turn", "(I)J"⟩, 107), (⟨"StaveHouseModel", "coded", "(LStaveHouseModel$Piece;)I"⟩, 107), (⟨"StaveHouseModel", "chordAt", "(LStaveHouseModel$Piece;I)V"⟩, 107), (⟨"StaveHouseModel", "classesAt", "(LStaveHouseModel$Piece;I)V"⟩, 107), (⟨"StaveHouseModel", "classOf", "(II)V"⟩, 107), (⟨"StaveHouseModel", "kindOn", "(I)I"⟩, 107)]
theorem lw_r12 : ∀ q ∈ lw_privs_12, lw_okq q := List.forall_mem_cons.mpr ⟨lw_p176, List.forall_mem_cons.mpr ⟨lw_p177, List.forall_mem_cons.mpr ⟨lw_p178, List.forall_mem_cons.mpr ⟨lw_p179, List.forall_mem_cons.mpr ⟨lw_p180, List.forall_mem_cons.mpr ⟨lw_p181, List.forall_mem_cons.mpr ⟨lw_p182, List.forall_mem_cons.mpr ⟨lw_p183, List.forall_mem_cons.mpr ⟨lw_p184, List.forall_mem_cons.mpr ⟨lw_p185, List.forall_mem_cons.mpr ⟨lw_p186, List.forall_mem_cons.mpr ⟨lw_p187, List.forall_mem_cons.mpr ⟨lw_p188, List.forall_mem_cons.mpr ⟨lw_p189, List.forall_mem_cons.mpr ⟨lw_p190, List.forall_mem_cons.mpr ⟨lw_p191, fun _ h => absurd h List.not_mem_nil⟩⟩⟩⟩⟩⟩⟩⟩⟩⟩⟩⟩⟩⟩⟩⟩
theorem lw_p192 : lw_okq (⟨"StaveHouseModel", "above", "(II)I"⟩, 107) := ⟨⟨by decide +kernel, by decide +kernel⟩, List.mem_of_getElem? (i := 2033) (by decide +kernel), List.mem_of_getElem? (i := 3154) (by decide +kernel), List.mem_of_getElem? (i := 3155) (by decide +kernel)⟩
theorem lw_p193 : lw_okq (⟨"StaveHouseModel", "isForeign", "(LStaveHouseModel$Piece;)Z"⟩, 107) := ⟨⟨by decide +kernel, by decide +kernel⟩, List.mem_of_getElem? (i := 2033) (by decide +kernel), List.mem_of_getElem? (i := 3167) (by decide +kernel), List.mem_of_getElem? (i := 3168) (by decide +kernel)⟩
theorem lw_p194 : lw_okq (⟨"StaveHouseModel", "isShape", "(LStaveHouseModel$Piece;IILStaveHouseModel$Piece;II)Z"⟩, 107) := ⟨⟨by decide +kernel, by decide +kernel⟩, List.mem_of_getElem? (i := 2033) (by decide +kernel), List.mem_of_getElem? (i := 3192) (by decide +kernel), List.mem_of_getElem? (i := 3193) (by decide +kernel)⟩
theorem lw_p195 : lw_okq (⟨"StaveHouseModel", "isLength", "(LStaveHouseModel$Piece;IILStaveHouseModel$Piece;IIZ)Z"⟩, 107) := ⟨⟨by decide +kernel, by decide +kernel⟩, List.mem_of_getElem? (i := 2033) (by decide +kernel), List.mem_of_getElem? (i := 3196) (by decide +kernel), List.mem_of_getElem? (i := 3197) (by decide +kernel)⟩
theorem lw_p196 : lw_okq (⟨"StaveHouseModel", "cut", "()V"⟩, 107) := ⟨⟨by decide +kernel, by decide +kernel⟩, List.mem_of_getElem? (i := 2033) (by decide +kernel), List.mem_of_getElem? (i := 3204) (by decide +kernel), List.mem_of_getElem? (i := 3205) (by decide +kernel)⟩
theorem lw_p197 : lw_okq (⟨"StaveHouseModel", "cutRun", "(I)I"⟩, 107) := ⟨⟨by decide +kernel, by decide +kernel⟩, List.mem_of_getElem? (i := 2033) (by decide +kernel), List.mem_of_getElem? (i := 3217) (by decide +kernel), List.mem_of_getElem? (i := 3218) (by decide +kernel)⟩
theorem lw_p198 : lw_okq (⟨"StaveHouseModel", "cutPitch", "(II)V"⟩, 107) := ⟨⟨by decide +kernel, by decide +kernel⟩, List.mem_of_getElem? (i := 2033) (by decide +kernel), List.mem_of_getElem? (i := 3221) (by decide +kernel), List.mem_of_getElem? (i := 3222) (by decide +kernel)⟩
theorem lw_p199 : lw_okq (⟨"StaveHouseModel", "text", "()V"⟩, 107) := ⟨⟨by decide +kernel, by decide +kernel⟩, List.mem_of_getElem? (i := 2033) (by decide +kernel), List.mem_of_getElem? (i := 3229) (by decide +kernel), List.mem_of_getElem? (i := 3230) (by decide +kernel)⟩
theorem lw_p200 : lw_okq (⟨"StaveHouseModel", "isWord", "(J)Z"⟩, 107) := ⟨⟨by decide +kernel, by decide +kernel⟩, List.mem_of_getElem? (i := 2033) (by decide +kernel), List.mem_of_getElem? (i := 3233) (by decide +kernel), List.mem_of_getElem? (i := 3234) (by decide +kernel)⟩
theorem lw_p201 : lw_okq (⟨"StaveHouseModel", "head", "()V"⟩, 107) := ⟨⟨by decide +kernel, by decide +kernel⟩, List.mem_of_getElem? (i := 2033) (by decide +kernel), List.mem_of_getElem? (i := 3237) (by decide +kernel), List.mem_of_getElem? (i := 3238) (by decide +kernel)⟩
theorem lw_p202 : lw_okq (⟨"StaveHouseModel", "headKey", "()V"⟩, 107) := ⟨⟨by decide +kernel, by decide +kernel⟩, List.mem_of_getElem? (i := 2033) (by decide +kernel), List.mem_of_getElem? (i := 3241) (by decide +kernel), List.mem_of_getElem? (i := 3242) (by decide +kernel)⟩
theorem lw_p203 : lw_okq (⟨"StaveHouseModel", "wrong", "()V"⟩, 107) := ⟨⟨by decide +kernel, by decide +kernel⟩, List.mem_of_getElem? (i := 2033) (by decide +kernel), List.mem_of_getElem? (i := 3245) (by decide +kernel), List.mem_of_getElem? (i := 3246) (by decide +kernel)⟩
theorem lw_p204 : lw_okq (⟨"StaveHouseModel", "fail", "(I)V"⟩, 107) := ⟨⟨by decide +kernel, by decide +kernel⟩, List.mem_of_getElem? (i := 2033) (by decide +kernel), List.mem_of_getElem? (i := 3249) (by decide +kernel), List.mem_of_getElem? (i := 3250) (by decide +kernel)⟩
theorem lw_p205 : lw_okq (⟨"StaveHouseModel", "failAt", "(II)V"⟩, 107) := ⟨⟨by decide +kernel, by decide +kernel⟩, List.mem_of_getElem? (i := 2033) (by decide +kernel), List.mem_of_getElem? (i := 3253) (by decide +kernel), List.mem_of_getElem? (i := 3254) (by decide +kernel)⟩
theorem lw_p206 : lw_okq (⟨"StaveHouseModel", "isSign", "(I)Z"⟩, 107) := ⟨⟨by decide +kernel, by decide +kernel⟩, List.mem_of_getElem? (i := 2033) (by decide +kernel), List.mem_of_getElem? (i := 3257) (by decide +kernel), List.mem_of_getElem? (i := 3258) (by decide +kernel)⟩
theorem lw_p207 : lw_okq (⟨"StaveHouseModel", "number", "(IIZ)I"⟩, 107) := ⟨⟨by decide +kernel, by decide +kernel⟩, List.mem_of_getElem? (i := 2033) (by decide +kernel), List.mem_of_getElem? (i := 3261) (by decide +kernel), List.mem_of_getElem? (i := 3262) (by decide +kernel)⟩
def lw_privs_13 : List (MethodName × Nat) := [(⟨"StaveHouseModel", "above", "(II)I"⟩, 107), (⟨"StaveHouseModel", "isForeign", "(LStaveHouseModel$Piece;)Z"⟩, 107), (⟨"StaveHouseModel", "isShape", "(LStaveHouseModel$Piece;IILStaveHouseModel$Piece;II)Z"⟩, 107), (⟨"StaveHouseModel", "isLength", "(LStaveHouseModel$Piece;IILStaveHouseModel$Piece;IIZ)Z"⟩, 107), (⟨"StaveHouseModel", "cut", "()V"⟩, 107), (⟨"StaveHouseModel", "cutRun", "(I)I"⟩, 107), (⟨"StaveHouseModel", "cutPitch", "(II)V"⟩, 107), (⟨"StaveHouseModel", "text", "()V"⟩, 107), (⟨"StaveHouseModel", "isWord", "(J)Z"⟩, 107), (⟨"StaveHouseModel", "head", "()V"⟩, 107), (⟨"StaveHouseModel", "headKey", "()V"⟩, 107), (⟨"StaveHouseModel", "wrong", "()V"⟩, 107), (⟨"StaveHouseModel", "fail", "(I)V"⟩, 107), (⟨"StaveHouseModel", "failAt", "(II)V"⟩, 107), (⟨"StaveHouseModel", "isSign", "(I)Z"⟩, 107), (⟨"StaveHouseModel", "number", "(IIZ)I"⟩, 107)]
theorem lw_r13 : ∀ q ∈ lw_privs_13, lw_okq q := List.forall_mem_cons.mpr ⟨lw_p192, List.forall_mem_cons.mpr ⟨lw_p193, List.forall_mem_cons.mpr ⟨lw_p194, List.forall_mem_cons.mpr ⟨lw_p195, List.forall_mem_cons.mpr ⟨lw_p196, List.forall_mem_cons.mpr ⟨lw_p197, List.forall_mem_cons.mpr ⟨lw_p198, List.forall_mem_cons.mpr ⟨lw_p199, List.forall_mem_cons.mpr ⟨lw_p200, List.forall_mem_cons.mpr ⟨lw_p201, List.forall_mem_cons.mpr ⟨lw_p202, List.forall_mem_cons.mpr ⟨lw_p203, List.forall_mem_cons.mpr ⟨lw_p204, List.forall_mem_cons.mpr ⟨lw_p205, List.forall_mem_cons.mpr ⟨lw_p206, List.forall_mem_cons.mpr ⟨lw_p207, fun _ h => absurd h List.not_mem_nil⟩⟩⟩⟩⟩⟩⟩⟩⟩⟩⟩⟩⟩⟩⟩⟩
theorem lw_p208 : lw_okq (⟨"StaveHouseModel", "need", "(I)V"⟩, 107) := ⟨⟨by decide +kernel, by decide +kernel⟩, List.mem_of_getElem? (i := 2033) (by decide +kernel), List.mem_of_getElem? (i := 3265) (by decide +kernel), List.mem_of_getElem? (i := 3266) (by decide +kernel)⟩
theorem lw_p209 : lw_okq (⟨"StaveHouseModel", "headLet", "()V"⟩, 107) := ⟨⟨by decide +kernel, by decide +kernel⟩, List.mem_of_getElem? (i := 2033) (by decide +kernel), List.mem_of_getElem? (i := 3269) (by decide +kernel), List.mem_of_getElem? (i := 3270) (by decide +kernel)⟩
theorem lw_p210 : lw_okq (⟨"StaveHouseModel", "isName", "()Z"⟩, 107) := ⟨⟨by decide +kernel, by decide +kernel⟩, List.mem_of_getElem? (i := 2033) (by decide +kernel), List.mem_of_getElem? (i := 3273) (by decide +kernel), List.mem_of_getElem? (i := 3274) (by decide +kernel)⟩
theorem lw_p211 : lw_okq (⟨"StaveHouseModel", "block", "()V"⟩, 107) := ⟨⟨by decide +kernel, by decide +kernel⟩, List.mem_of_getElem? (i := 2033) (by decide +kernel), List.mem_of_getElem? (i := 3280) (by decide +kernel), List.mem_of_getElem? (i := 3281) (by decide +kernel)⟩
theorem lw_p212 : lw_okq (⟨"StaveHouseModel", "opening", "(I)V"⟩, 107) := ⟨⟨by decide +kernel, by decide +kernel⟩, List.mem_of_getElem? (i := 2033) (by decide +kernel), List.mem_of_getElem? (i := 3284) (by decide +kernel), List.mem_of_getElem? (i := 3285) (by decide +kernel)⟩
theorem lw_p213 : lw_okq (⟨"StaveHouseModel", "item", "()V"⟩, 107) := ⟨⟨by decide +kernel, by decide +kernel⟩, List.mem_of_getElem? (i := 2033) (by decide +kernel), List.mem_of_getElem? (i := 3288) (by decide +kernel), List.mem_of_getElem? (i := 3289) (by decide +kernel)⟩
theorem lw_p214 : lw_okq (⟨"StaveHouseModel", "length", "(I)V"⟩, 107) := ⟨⟨by decide +kernel, by decide +kernel⟩, List.mem_of_getElem? (i := 2033) (by decide +kernel), List.mem_of_getElem? (i := 3292) (by decide +kernel), List.mem_of_getElem? (i := 3293) (by decide +kernel)⟩
theorem lw_p215 : lw_okq (⟨"StaveHouseModel", "marks", "(I)V"⟩, 107) := ⟨⟨by decide +kernel, by decide +kernel⟩, List.mem_of_getElem? (i := 2033) (by decide +kernel), List.mem_of_getElem? (i := 3296) (by decide +kernel), List.mem_of_getElem? (i := 3297) (by decide +kernel)⟩
theorem lw_p216 : lw_okq (⟨"StaveHouseModel", "markHere", "()I"⟩, 107) := ⟨⟨by decide +kernel, by decide +kernel⟩, List.mem_of_getElem? (i := 2033) (by decide +kernel), List.mem_of_getElem? (i := 3300) (by decide +kernel), List.mem_of_getElem? (i := 3301) (by decide +kernel)⟩
theorem lw_p217 : lw_okq (⟨"StaveHouseModel", "chord", "()V"⟩, 107) := ⟨⟨by decide +kernel, by decide +kernel⟩, List.mem_of_getElem? (i := 2033) (by decide +kernel), List.mem_of_getElem? (i := 3304) (by decide +kernel), List.mem_of_getElem? (i := 3305) (by decide +kernel)⟩
theorem lw_p218 : lw_okq (⟨"StaveHouseModel", "tuplet", "()V"⟩, 107) := ⟨⟨by decide +kernel, by decide +kernel⟩, List.mem_of_getElem? (i := 2033) (by decide +kernel), List.mem_of_getElem? (i := 3308) (by decide +kernel), List.mem_of_getElem? (i := 3309) (by decide +kernel)⟩
theorem lw_p219 : lw_okq (⟨"StaveHouseModel", "closing", "(II)V"⟩, 107) := ⟨⟨by decide +kernel, by decide +kernel⟩, List.mem_of_getElem? (i := 2033) (by decide +kernel), List.mem_of_getElem? (i := 3312) (by decide +kernel), List.mem_of_getElem? (i := 3313) (by decide +kernel)⟩
theorem lw_p220 : lw_okq (⟨"StaveHouseModel", "itemOfWord", "()V"⟩, 107) := ⟨⟨by decide +kernel, by decide +kernel⟩, List.mem_of_getElem? (i := 2033) (by decide +kernel), List.mem_of_getElem? (i := 3316) (by decide +kernel), List.mem_of_getElem? (i := 3317) (by decide +kernel)⟩
theorem lw_p221 : lw_okq (⟨"StaveHouseModel", "voiceText", "()V"⟩, 107) := ⟨⟨by decide +kernel, by decide +kernel⟩, List.mem_of_getElem? (i := 2033) (by decide +kernel), List.mem_of_getElem? (i := 3320) (by decide +kernel), List.mem_of_getElem? (i := 3321) (by decide +kernel)⟩
theorem lw_p222 : lw_okq (⟨"StaveHouseModel", "through", "()V"⟩, 107) := ⟨⟨by decide +kernel, by decide +kernel⟩, List.mem_of_getElem? (i := 2033) (by decide +kernel), List.mem_of_getElem? (i := 3324) (by decide +kernel), List.mem_of_getElem? (i := 3325) (by decide +kernel)⟩
theorem lw_p223 : lw_okq (⟨"StaveHouseModel", "walk", "(II)V"⟩, 107) := ⟨⟨by decide +kernel, by decide +kernel⟩, List.mem_of_getElem? (i := 2033) (by decide +kernel), List.mem_of_getElem? (i := 3328) (by decide +kernel), List.mem_of_getElem? (i := 3329) (by decide +kernel)⟩
def lw_privs_14 : List (MethodName × Nat) := [(⟨"StaveHouseModel", "need", "(I)V"⟩, 107), (⟨"StaveHouseModel", "headLet", "()V"⟩, 107), (⟨"StaveHouseModel", "isName", "()Z"⟩, 107), (⟨"StaveHouseModel", "block", "()V"⟩, 107), (⟨"StaveHouseModel", "opening", "(I)V"⟩, 107), (⟨"StaveHouseModel", "item", "()V"⟩, 107), (⟨"StaveHouseModel", "length", "(I)V"⟩, 107), (⟨"StaveHouseModel", "marks", "(I)V"⟩, 107), (⟨"StaveHouseModel", "markHere", "()I"⟩, 107), (⟨"StaveHouseModel", "chord", "()V"⟩, 107), (⟨"StaveHouseModel", "tuplet", "()V"⟩, 107), (⟨"StaveHouseModel", "closing", "(II)V"⟩, 107), (⟨"StaveHouseModel", "itemOfWord", "()V"⟩, 107), (⟨"StaveHouseModel", "voiceText", "()V"⟩, 107), (⟨"StaveHouseModel", "through", "()V"⟩, 107), (⟨"StaveHouseModel", "walk", "(II)V"⟩, 107)]
theorem lw_r14 : ∀ q ∈ lw_privs_14, lw_okq q := List.forall_mem_cons.mpr ⟨lw_p208, List.forall_mem_cons.mpr ⟨lw_p209, List.forall_mem_cons.mpr ⟨lw_p210, List.forall_mem_cons.mpr ⟨lw_p211, List.forall_mem_cons.mpr ⟨lw_p212, List.forall_mem_cons.mpr ⟨lw_p213, List.forall_mem_cons.mpr ⟨lw_p214, List.forall_mem_cons.mpr ⟨lw_p215, List.forall_mem_cons.mpr ⟨lw_p216, List.forall_mem_cons.mpr ⟨lw_p217, List.forall_mem_cons.mpr ⟨lw_p218, List.forall_mem_cons.mpr ⟨lw_p219, List.forall_mem_cons.mpr ⟨lw_p220, List.forall_mem_cons.mpr ⟨lw_p221, List.forall_mem_cons.mpr ⟨lw_p222, List.forall_mem_cons.mpr ⟨lw_p223, fun _ h => absurd h List.not_mem_nil⟩⟩⟩⟩⟩⟩⟩⟩⟩⟩⟩⟩⟩⟩⟩⟩
theorem lw_p224 : lw_okq (⟨"StaveHouseModel", "counts", "(I)V"⟩, 107) := ⟨⟨by decide +kernel, by decide +kernel⟩, List.mem_of_getElem? (i := 2033) (by decide +kernel), List.mem_of_getElem? (i := 3332) (by decide +kernel), List.mem_of_getElem? (i := 3333) (by decide +kernel)⟩
theorem lw_p225 : lw_okq (⟨"StaveHouseModel", "go", "(I)V"⟩, 107) := ⟨⟨by decide +kernel, by decide +kernel⟩, List.mem_of_getElem? (i := 2033) (by decide +kernel), List.mem_of_getElem? (i := 3336) (by decide +kernel), List.mem_of_getElem? (i := 3337) (by decide +kernel)⟩
theorem lw_p226 : lw_okq (⟨"StaveHouseModel", "event", "(I)V"⟩, 107) := ⟨⟨by decide +kernel, by decide +kernel⟩, List.mem_of_getElem? (i := 2033) (by decide +kernel), List.mem_of_getElem? (i := 3340) (by decide +kernel), List.mem_of_getElem? (i := 3341) (by decide +kernel)⟩
theorem lw_p227 : lw_okq (⟨"StaveHouseModel", "valueOf", "(I)I"⟩, 107) := ⟨⟨by decide +kernel, by decide +kernel⟩, List.mem_of_getElem? (i := 2033) (by decide +kernel), List.mem_of_getElem? (i := 3344) (by decide +kernel), List.mem_of_getElem? (i := 3345) (by decide +kernel)⟩
theorem lw_p228 : lw_okq (⟨"StaveHouseModel", "behindPitches", "(I)I"⟩, 107) := ⟨⟨by decide +kernel, by decide +kernel⟩, List.mem_of_getElem? (i := 2033) (by decide +kernel), List.mem_of_getElem? (i := 3349) (by decide +kernel), List.mem_of_getElem? (i := 3350) (by decide +kernel)⟩
theorem lw_p229 : lw_okq (⟨"StaveHouseModel", "pitchOf", "(II)V"⟩, 107) := ⟨⟨by decide +kernel, by decide +kernel⟩, List.mem_of_getElem? (i := 2033) (by decide +kernel), List.mem_of_getElem? (i := 3353) (by decide +kernel), List.mem_of_getElem? (i := 3354) (by decide +kernel)⟩
theorem lw_p230 : lw_okq (⟨"StaveHouseModel", "goSign", "(I)V"⟩, 107) := ⟨⟨by decide +kernel, by decide +kernel⟩, List.mem_of_getElem? (i := 2033) (by decide +kernel), List.mem_of_getElem? (i := 3357) (by decide +kernel), List.mem_of_getElem? (i := 3358) (by decide +kernel)⟩
theorem lw_p231 : lw_okq (⟨"StaveHouseModel", "goRepeat", "(I)V"⟩, 107) := ⟨⟨by decide +kernel, by decide +kernel⟩, List.mem_of_getElem? (i := 2033) (by decide +kernel), List.mem_of_getElem? (i := 3361) (by decide +kernel), List.mem_of_getElem? (i := 3362) (by decide +kernel)⟩
theorem lw_p232 : lw_okq (⟨"StaveHouseModel", "goUse", "(I)V"⟩, 107) := ⟨⟨by decide +kernel, by decide +kernel⟩, List.mem_of_getElem? (i := 2033) (by decide +kernel), List.mem_of_getElem? (i := 3365) (by decide +kernel), List.mem_of_getElem? (i := 3366) (by decide +kernel)⟩
theorem lw_p233 : lw_okq (⟨"StaveHouseModel", "goChange", "(I)V"⟩, 107) := ⟨⟨by decide +kernel, by decide +kernel⟩, List.mem_of_getElem? (i := 2033) (by decide +kernel), List.mem_of_getElem? (i := 3369) (by decide +kernel), List.mem_of_getElem? (i := 3370) (by decide +kernel)⟩
theorem lw_p234 : lw_okq (⟨"StaveHouseModel", "goBack", "(I)V"⟩, 107) := ⟨⟨by decide +kernel, by decide +kernel⟩, List.mem_of_getElem? (i := 2033) (by decide +kernel), List.mem_of_getElem? (i := 3373) (by decide +kernel), List.mem_of_getElem? (i := 3374) (by decide +kernel)⟩
theorem lw_p235 : lw_okq (⟨"StaveHouseModel", "exchange", "(II)V"⟩, 107) := ⟨⟨by decide +kernel, by decide +kernel⟩, List.mem_of_getElem? (i := 2033) (by decide +kernel), List.mem_of_getElem? (i := 3377) (by decide +kernel), List.mem_of_getElem? (i := 3378) (by decide +kernel)⟩
theorem lw_p236 : lw_okq (⟨"StaveHouseModel", "goSlow", "(I)V"⟩, 107) := ⟨⟨by decide +kernel, by decide +kernel⟩, List.mem_of_getElem? (i := 2033) (by decide +kernel), List.mem_of_getElem? (i := 3387) (by decide +kernel), List.mem_of_getElem? (i := 3388) (by decide +kernel)⟩
theorem lw_p237 : lw_okq (⟨"StaveHouseModel", "power", "(II)V"⟩, 107) := ⟨⟨by decide +kernel, by decide +kernel⟩, List.mem_of_getElem? (i := 2033) (by decide +kernel), List.mem_of_getElem? (i := 3391) (by decide +kernel), List.mem_of_getElem? (i := 3392) (by decide +kernel)⟩
theorem lw_p238 : lw_okq (⟨"StaveHouseModel", "judge", "()V"⟩, 107) := ⟨⟨by decide +kernel, by decide +kernel⟩, List.mem_of_getElem? (i := 2033) (by decide +kernel), List.mem_of_getElem? (i := 3395) (by decide +kernel), List.mem_of_getElem? (i := 3396) (by decide +kernel)⟩
theorem lw_p239 : lw_okq (⟨"StaveHouseModel", "judgeOuter", "(I)V"⟩, 107) := ⟨⟨by decide +kernel, by decide +kernel⟩, List.mem_of_getElem? (i := 2033) (by decide +kernel), List.mem_of_getElem? (i := 3399) (by decide +kernel), List.mem_of_getElem? (i := 3400) (by decide +kernel)⟩
def lw_privs_15 : List (MethodName × Nat) := [(⟨"StaveHouseModel", "counts", "(I)V"⟩, 107), (⟨"StaveHouseModel", "go", "(I)V"⟩, 107), (⟨"StaveHouseModel", "event", "(I)V"⟩, 107), (⟨"StaveHouseModel", "valueOf", "(I)I"⟩, 107), (⟨"StaveHouseModel", "behindPitches", "(I)I"⟩, 107), (⟨"StaveHouseModel", "pitchOf", "(II)V"⟩, 107), (⟨"StaveHouseModel", "goSign", "(I)V"⟩, 107), (⟨"StaveHouseModel", "goRepeat", "(I)V"⟩, 107), (⟨"StaveHouseModel", "goUse", "(I)V"⟩, 107), (⟨"StaveHouseModel", "goChange", "(I)V"⟩, 107), (⟨"StaveHouseModel", "goBack", "(I)V"⟩, 107), (⟨"StaveHouseModel", "exchange", "(II)V"⟩, 107), (⟨"StaveHouseModel", "goSlow", "(I)V"⟩, 107), (⟨"StaveHouseModel", "power", "(II)V"⟩, 107), (⟨"StaveHouseModel", "judge", "()V"⟩, 107), (⟨"StaveHouseModel", "judgeOuter", "(I)V"⟩, 107)]
theorem lw_r15 : ∀ q ∈ lw_privs_15, lw_okq q := List.forall_mem_cons.mpr ⟨lw_p224, List.forall_mem_cons.mpr ⟨lw_p225, List.forall_mem_cons.mpr ⟨lw_p226, List.forall_mem_cons.mpr ⟨lw_p227, List.forall_mem_cons.mpr ⟨lw_p228, List.forall_mem_cons.mpr ⟨lw_p229, List.forall_mem_cons.mpr ⟨lw_p230, List.forall_mem_cons.mpr ⟨lw_p231, List.forall_mem_cons.mpr ⟨lw_p232, List.forall_mem_cons.mpr ⟨lw_p233, List.forall_mem_cons.mpr ⟨lw_p234, List.forall_mem_cons.mpr ⟨lw_p235, List.forall_mem_cons.mpr ⟨lw_p236, List.forall_mem_cons.mpr ⟨lw_p237, List.forall_mem_cons.mpr ⟨lw_p238, List.forall_mem_cons.mpr ⟨lw_p239, fun _ h => absurd h List.not_mem_nil⟩⟩⟩⟩⟩⟩⟩⟩⟩⟩⟩⟩⟩⟩⟩⟩
theorem lw_p240 : lw_okq (⟨"StaveHouseModel", "staves", "(LStaveHouseModel$Piece;)V"⟩, 107) := ⟨⟨by decide +kernel, by decide +kernel⟩, List.mem_of_getElem? (i := 2033) (by decide +kernel), List.mem_of_getElem? (i := 3409) (by decide +kernel), List.mem_of_getElem? (i := 3410) (by decide +kernel)⟩
theorem lw_p241 : lw_okq (⟨"StaveHouseModel", "holds", "(LStaveHouseModel$Piece;I)V"⟩, 107) := ⟨⟨by decide +kernel, by decide +kernel⟩, List.mem_of_getElem? (i := 2033) (by decide +kernel), List.mem_of_getElem? (i := 3413) (by decide +kernel), List.mem_of_getElem? (i := 3414) (by decide +kernel)⟩
theorem lw_p242 : lw_okq (⟨"StaveHouseModel", "accidentals", "(LStaveHouseModel$Piece;I)V"⟩, 107) := ⟨⟨by decide +kernel, by decide +kernel⟩, List.mem_of_getElem? (i := 2033) (by decide +kernel), List.mem_of_getElem? (i := 3417) (by decide +kernel), List.mem_of_getElem? (i := 3418) (by decide +kernel)⟩
theorem lw_p243 : lw_okq (⟨"StaveHouseModel", "comesOn", "(LStaveHouseModel$Piece;IIII)Z"⟩, 107) := ⟨⟨by decide +kernel, by decide +kernel⟩, List.mem_of_getElem? (i := 2033) (by decide +kernel), List.mem_of_getElem? (i := 3421) (by decide +kernel), List.mem_of_getElem? (i := 3422) (by decide +kernel)⟩
theorem lw_p244 : lw_okq (⟨"StaveHouseModel", "ledgers", "(LStaveHouseModel$Piece;II)I"⟩, 107) := ⟨⟨by decide +kernel, by decide +kernel⟩, List.mem_of_getElem? (i := 2033) (by decide +kernel), List.mem_of_getElem? (i := 3425) (by decide +kernel), List.mem_of_getElem? (i := 3426) (by decide +kernel)⟩
theorem lw_p245 : lw_okq (⟨"StaveHouseModel", "groups", "(LStaveHouseModel$Piece;I)V"⟩, 107) := ⟨⟨by decide +kernel, by decide +kernel⟩, List.mem_of_getElem? (i := 2033) (by decide +kernel), List.mem_of_getElem? (i := 3438) (by decide +kernel), List.mem_of_getElem? (i := 3439) (by decide +kernel)⟩
theorem lw_p246 : lw_okq (⟨"StaveHouseModel", "isTogether", "(LStaveHouseModel$Piece;III)Z"⟩, 107) := ⟨⟨by decide +kernel, by decide +kernel⟩, List.mem_of_getElem? (i := 2033) (by decide +kernel), List.mem_of_getElem? (i := 3442) (by decide +kernel), List.mem_of_getElem? (i := 3443) (by decide +kernel)⟩
theorem lw_p247 : lw_okq (⟨"StaveHouseModel", "isBeamed", "(LStaveHouseModel$Piece;II)Z"⟩, 107) := ⟨⟨by decide +kernel, by decide +kernel⟩, List.mem_of_getElem? (i := 2033) (by decide +kernel), List.mem_of_getElem? (i := 3446) (by decide +kernel), List.mem_of_getElem? (i := 3447) (by decide +kernel)⟩
theorem lw_p248 : lw_okq (⟨"StaveHouseModel", "columns", "(LStaveHouseModel$Piece;)V"⟩, 107) := ⟨⟨by decide +kernel, by decide +kernel⟩, List.mem_of_getElem? (i := 2033) (by decide +kernel), List.mem_of_getElem? (i := 3450) (by decide +kernel), List.mem_of_getElem? (i := 3451) (by decide +kernel)⟩
theorem lw_p249 : lw_okq (⟨"StaveHouseModel", "column", "(LStaveHouseModel$Piece;IIJJ)I"⟩, 107) := ⟨⟨by decide +kernel, by decide +kernel⟩, List.mem_of_getElem? (i := 2033) (by decide +kernel), List.mem_of_getElem? (i := 3454) (by decide +kernel), List.mem_of_getElem? (i := 3455) (by decide +kernel)⟩
theorem lw_p250 : lw_okq (⟨"StaveHouseModel", "wide", "(LStaveHouseModel$Piece;II)I"⟩, 107) := ⟨⟨by decide +kernel, by decide +kernel⟩, List.mem_of_getElem? (i := 2033) (by decide +kernel), List.mem_of_getElem? (i := 3458) (by decide +kernel), List.mem_of_getElem? (i := 3459) (by decide +kernel)⟩
theorem lw_p251 : lw_okq (⟨"StaveHouseModel", "moments", "(LStaveHouseModel$Piece;)V"⟩, 107) := ⟨⟨by decide +kernel, by decide +kernel⟩, List.mem_of_getElem? (i := 2033) (by decide +kernel), List.mem_of_getElem? (i := 3462) (by decide +kernel), List.mem_of_getElem? (i := 3463) (by decide +kernel)⟩
theorem lw_p252 : lw_okq (⟨"StaveHouseModel", "between", "(LStaveHouseModel$Piece;)V"⟩, 107) := ⟨⟨by decide +kernel, by decide +kernel⟩, List.mem_of_getElem? (i := 2033) (by decide +kernel), List.mem_of_getElem? (i := 3469) (by decide +kernel), List.mem_of_getElem? (i := 3470) (by decide +kernel)⟩
theorem lw_p253 : lw_okq (⟨"StaveHouseModel", "keyHeard", "(LStaveHouseModel$Piece;)I"⟩, 107) := ⟨⟨by decide +kernel, by decide +kernel⟩, List.mem_of_getElem? (i := 2033) (by decide +kernel), List.mem_of_getElem? (i := 3507) (by decide +kernel), List.mem_of_getElem? (i := 3508) (by decide +kernel)⟩
def lw_privs_16 : List (MethodName × Nat) := [(⟨"StaveHouseModel", "staves", "(LStaveHouseModel$Piece;)V"⟩, 107), (⟨"StaveHouseModel", "holds", "(LStaveHouseModel$Piece;I)V"⟩, 107), (⟨"StaveHouseModel", "accidentals", "(LStaveHouseModel$Piece;I)V"⟩, 107), (⟨"StaveHouseModel", "comesOn", "(LStaveHouseModel$Piece;IIII)Z"⟩, 107), (⟨"StaveHouseModel", "ledgers", "(LStaveHouseModel$Piece;II)I"⟩, 107), (⟨"StaveHouseModel", "groups", "(LStaveHouseModel$Piece;I)V"⟩, 107), (⟨"StaveHouseModel", "isTogether", "(LStaveHouseModel$Piece;III)Z"⟩, 107), (⟨"StaveHouseModel", "isBeamed", "(LStaveHouseModel$Piece;II)Z"⟩, 107), (⟨"StaveHouseModel", "columns", "(LStaveHouseModel$Piece;)V"⟩, 107), (⟨"StaveHouseModel", "column", "(LStaveHouseModel$Piece;IIJJ)I"⟩, 107), (⟨"StaveHouseModel", "wide", "(LStaveHouseModel$Piece;II)I"⟩, 107), (⟨"StaveHouseModel", "moments", "(LStaveHouseModel$Piece;)V"⟩, 107), (⟨"StaveHouseModel", "between", "(LStaveHouseModel$Piece;)V"⟩, 107), (⟨"StaveHouseModel", "keyHeard", "(LStaveHouseModel$Piece;)I"⟩, 107)]
theorem lw_r16 : ∀ q ∈ lw_privs_16, lw_okq q := List.forall_mem_cons.mpr ⟨lw_p240, List.forall_mem_cons.mpr ⟨lw_p241, List.forall_mem_cons.mpr ⟨lw_p242, List.forall_mem_cons.mpr ⟨lw_p243, List.forall_mem_cons.mpr ⟨lw_p244, List.forall_mem_cons.mpr ⟨lw_p245, List.forall_mem_cons.mpr ⟨lw_p246, List.forall_mem_cons.mpr ⟨lw_p247, List.forall_mem_cons.mpr ⟨lw_p248, List.forall_mem_cons.mpr ⟨lw_p249, List.forall_mem_cons.mpr ⟨lw_p250, List.forall_mem_cons.mpr ⟨lw_p251, List.forall_mem_cons.mpr ⟨lw_p252, List.forall_mem_cons.mpr ⟨lw_p253, fun _ h => absurd h List.not_mem_nil⟩⟩⟩⟩⟩⟩⟩⟩⟩⟩⟩⟩⟩⟩
def lw_privs : List (MethodName × Nat) := lw_privs_1 ++ (lw_privs_2 ++ (lw_privs_3 ++ (lw_privs_4 ++ (lw_privs_5 ++ (lw_privs_6 ++ (lw_privs_7 ++ (lw_privs_8 ++ (lw_privs_9 ++ (lw_privs_10 ++ (lw_privs_11 ++ (lw_privs_12 ++ (lw_privs_13 ++ (lw_privs_14 ++ (lw_privs_15 ++ (lw_privs_16)))))))))))))))
def lw_tbl : List Cond := k2_sels lw_privs ++ tables_1
theorem lw_privs_ok : ∀ q ∈ lw_privs, lw_okq q := by
  show ∀ q ∈ lw_privs_1 ++ (lw_privs_2 ++ (lw_privs_3 ++ (lw_privs_4 ++ (lw_privs_5 ++ (lw_privs_6 ++ (lw_privs_7 ++ (lw_privs_8 ++ (lw_privs_9 ++ (lw_privs_10 ++ (lw_privs_11 ++ (lw_privs_12 ++ (lw_privs_13 ++ (lw_privs_14 ++ (lw_privs_15 ++ (lw_privs_16))))))))))))))), lw_okq q
  exact List.forall_mem_append.mpr ⟨lw_r1, List.forall_mem_append.mpr ⟨lw_r2, List.forall_mem_append.mpr ⟨lw_r3, List.forall_mem_append.mpr ⟨lw_r4, List.forall_mem_append.mpr ⟨lw_r5, List.forall_mem_append.mpr ⟨lw_r6, List.forall_mem_append.mpr ⟨lw_r7, List.forall_mem_append.mpr ⟨lw_r8, List.forall_mem_append.mpr ⟨lw_r9, List.forall_mem_append.mpr ⟨lw_r10, List.forall_mem_append.mpr ⟨lw_r11, List.forall_mem_append.mpr ⟨lw_r12, List.forall_mem_append.mpr ⟨lw_r13, List.forall_mem_append.mpr ⟨lw_r14, List.forall_mem_append.mpr ⟨lw_r15, lw_r16⟩⟩⟩⟩⟩⟩⟩⟩⟩⟩⟩⟩⟩⟩⟩
end
section
def RX0 : String := "StaveHouse$ByteRow"
def TX0 : u_T := fun k => match k with
  | 0 => ("StaveHouse$ByteRow", "bytes", "[I", true)
  | 1 => ("StaveHouse$ByteRow", "size", "I", false)
  | _ => ("StaveHouse$ByteRow", "full", "Z", false)
def tyX0 : Nat → FieldType := fun k => match k with
  | 0 => .array .int
  | 1 => .int
  | _ => .boolean
theorem nmX0 : ∀ a, a < 3 → ∀ b, b < 3 → a ≠ b → (TX0 a).2.1 ≠ (TX0 b).2.1 := by decide +kernel
theorem tyX0_ok : ∀ k, k < 3 → parseFieldDescriptor (TX0 k).2.2.1 = some (tyX0 k) := by decide +kernel
def RX1 : String := "StaveHouse$Event"
def TX1 : u_T := fun k => match k with
  | 0 => ("StaveHouse$Event", "place", "J", false)
  | 1 => ("StaveHouse$Event", "length", "J", false)
  | 2 => ("StaveHouse$Event", "value", "I", false)
  | 3 => ("StaveHouse$Event", "tupletFirst", "I", false)
  | 4 => ("StaveHouse$Event", "tupletSecond", "I", false)
  | 5 => ("StaveHouse$Event", "bracket", "I", false)
  | 6 => ("StaveHouse$Event", "bracketPlace", "I", false)
  | 7 => ("StaveHouse$Event", "marks", "I", false)
  | 8 => ("StaveHouse$Event", "loud", "I", false)
  | 9 => ("StaveHouse$Event", "token", "I", false)
  | 10 => ("StaveHouse$Event", "count", "I", false)
  | 11 => ("StaveHouse$Event", "slurred", "Z", false)
  | 12 => ("StaveHouse$Event", "steps", "[I", true)
  | _ => ("StaveHouse$Event", "alterations", "[I", true)
def tyX1 : Nat → FieldType := fun k => match k with
  | 0 => .long
  | 1 => .long
  | 2 => .int
  | 3 => .int
  | 4 => .int
  | 5 => .int
  | 6 => .int
  | 7 => .int
  | 8 => .int
  | 9 => .int
  | 10 => .int
  | 11 => .boolean
  | 12 => .array .int
  | _ => .array .int
theorem nmX1 : ∀ a, a < 14 → ∀ b, b < 14 → a ≠ b → (TX1 a).2.1 ≠ (TX1 b).2.1 := by decide +kernel
theorem tyX1_ok : ∀ k, k < 14 → parseFieldDescriptor (TX1 k).2.2.1 = some (tyX1 k) := by decide +kernel
def RX2 : String := "StaveHouse$Layout"
def TX2 : u_T := fun k => match k with
  | 0 => ("StaveHouse$Layout", "lineCount", "I", false)
  | 1 => ("StaveHouse$Layout", "columnPlaces", "[J", true)
  | 2 => ("StaveHouse$Layout", "columnWidths", "[I", true)
  | 3 => ("StaveHouse$Layout", "columnXs", "[I", true)
  | 4 => ("StaveHouse$Layout", "columns", "I", false)
  | 5 => ("StaveHouse$Layout", "barFirsts", "[I", true)
  | 6 => ("StaveHouse$Layout", "barWidths", "[I", true)
  | 7 => ("StaveHouse$Layout", "lineFirsts", "[I", true)
  | 8 => ("StaveHouse$Layout", "lineWidths", "[I", true)
  | 9 => ("StaveHouse$Layout", "linePrices", "[J", true)
  | 10 => ("StaveHouse$Layout", "best", "[J", true)
  | 11 => ("StaveHouse$Layout", "breaks", "[I", true)
  | _ => ("StaveHouse$Layout", "nexts", "[I", true)
def tyX2 : Nat → FieldType := fun k => match k with
  | 0 => .int
  | 1 => .array .long
  | 2 => .array .int
  | 3 => .array .int
  | 4 => .int
  | 5 => .array .int
  | 6 => .array .int
  | 7 => .array .int
  | 8 => .array .int
  | 9 => .array .long
  | 10 => .array .long
  | 11 => .array .int
  | _ => .array .int
theorem nmX2 : ∀ a, a < 13 → ∀ b, b < 13 → a ≠ b → (TX2 a).2.1 ≠ (TX2 b).2.1 := by decide +kernel
theorem tyX2_ok : ∀ k, k < 13 → parseFieldDescriptor (TX2 k).2.2.1 = some (tyX2 k) := by decide +kernel
def RX3 : String := "StaveHouse$Parser"
def TX3 : u_T := fun k => match k with
  | 0 => ("StaveHouse$Parser", "kind", "[I", true)
  | 1 => ("StaveHouse$Parser", "place", "[I", true)
  | 2 => ("StaveHouse$Parser", "first", "[I", true)
  | 3 => ("StaveHouse$Parser", "second", "[I", true)
  | 4 => ("StaveHouse$Parser", "child", "[I", true)
  | 5 => ("StaveHouse$Parser", "next", "[I", true)
  | 6 => ("StaveHouse$Parser", "count", "[I", true)
  | 7 => ("StaveHouse$Parser", "marks", "[I", true)
  | 8 => ("StaveHouse$Parser", "pitchSteps", "[I", true)
  | 9 => ("StaveHouse$Parser", "pitchAlterations", "[I", true)
  | 10 => ("StaveHouse$Parser", "pitchPlaces", "[I", true)
  | 11 => ("StaveHouse$Parser", "token", "LStaveHouse$Tokens;", true)
  | 12 => ("StaveHouse$Parser", "letNames", "[J", true)
  | 13 => ("StaveHouse$Parser", "letItems", "[I", true)
  | 14 => ("StaveHouse$Parser", "items", "I", false)
  | 15 => ("StaveHouse$Parser", "pitches", "I", false)
  | 16 => ("StaveHouse$Parser", "lets", "I", false)
  | 17 => ("StaveHouse$Parser", "headsTold", "I", false)
  | 18 => ("StaveHouse$Parser", "depth", "I", false)
  | 19 => ("StaveHouse$Parser", "number", "I", false)
  | 20 => ("StaveHouse$Parser", "length", "I", false)
  | _ => ("StaveHouse$Parser", "wrong", "I", false)
def tyX3 : Nat → FieldType := fun k => match k with
  | 0 => .array .int
  | 1 => .array .int
  | 2 => .array .int
  | 3 => .array .int
  | 4 => .array .int
  | 5 => .array .int
  | 6 => .array .int
  | 7 => .array .int
  | 8 => .array .int
  | 9 => .array .int
  | 10 => .array .int
  | 11 => .object "StaveHouse$Tokens"
  | 12 => .array .long
  | 13 => .array .int
  | 14 => .int
  | 15 => .int
  | 16 => .int
  | 17 => .int
  | 18 => .int
  | 19 => .int
  | 20 => .int
  | _ => .int
theorem nmX3 : ∀ a, a < 22 → ∀ b, b < 22 → a ≠ b → (TX3 a).2.1 ≠ (TX3 b).2.1 := by decide +kernel
theorem tyX3_ok : ∀ k, k < 22 → parseFieldDescriptor (TX3 k).2.2.1 = some (tyX3 k) := by decide +kernel
def RX4 : String := "StaveHouse$Part"
def TX4 : u_T := fun k => match k with
  | 0 => ("StaveHouse$Part", "word", "J", false)
  | 1 => ("StaveHouse$Part", "clef", "I", false)
  | 2 => ("StaveHouse$Part", "number", "I", false)
  | 3 => ("StaveHouse$Part", "token", "I", false)
  | 4 => ("StaveHouse$Part", "root", "I", false)
  | 5 => ("StaveHouse$Part", "events", "[LStaveHouse$Event;", true)
  | 6 => ("StaveHouse$Part", "eventCount", "I", false)
  | 7 => ("StaveHouse$Part", "endPlace", "J", false)
  | 8 => ("StaveHouse$Part", "notes", "[[I", true)
  | 9 => ("StaveHouse$Part", "notePlaces", "[J", true)
  | 10 => ("StaveHouse$Part", "noteCount", "I", false)
  | 11 => ("StaveHouse$Part", "tooManyNotes", "Z", false)
  | _ => ("StaveHouse$Part", "known", "[I", true)
def tyX4 : Nat → FieldType := fun k => match k with
  | 0 => .long
  | 1 => .int
  | 2 => .int
  | 3 => .int
  | 4 => .int
  | 5 => .array (.object "StaveHouse$Event")
  | 6 => .int
  | 7 => .long
  | 8 => .array (.array .int)
  | 9 => .array .long
  | 10 => .int
  | 11 => .boolean
  | _ => .array .int
theorem nmX4 : ∀ a, a < 13 → ∀ b, b < 13 → a ≠ b → (TX4 a).2.1 ≠ (TX4 b).2.1 := by decide +kernel
theorem tyX4_ok : ∀ k, k < 13 → parseFieldDescriptor (TX4 k).2.2.1 = some (tyX4 k) := by decide +kernel
def RX5 : String := "StaveHouse$Performance"
def TX5 : u_T := fun k => match k with
  | 0 => ("StaveHouse$Performance", "count", "I", false)
  | 1 => ("StaveHouse$Performance", "tooMany", "Z", false)
  | 2 => ("StaveHouse$Performance", "made", "I", false)
  | 3 => ("StaveHouse$Performance", "latest", "I", false)
  | 4 => ("StaveHouse$Performance", "heardRow", "[I", true)
  | 5 => ("StaveHouse$Performance", "codeRow", "[I", true)
  | 6 => ("StaveHouse$Performance", "mix", "[I", true)
  | 7 => ("StaveHouse$Performance", "sounds", "[[I", true)
  | 8 => ("StaveHouse$Performance", "strokes", "[J", false)
  | 9 => ("StaveHouse$Performance", "otherStrokes", "[J", false)
  | 10 => ("StaveHouse$Performance", "keyTicks", "[J", true)
  | 11 => ("StaveHouse$Performance", "heard", "I", false)
  | 12 => ("StaveHouse$Performance", "predicted", "I", false)
  | _ => ("StaveHouse$Performance", "index", "I", false)
def tyX5 : Nat → FieldType := fun k => match k with
  | 0 => .int
  | 1 => .boolean
  | 2 => .int
  | 3 => .int
  | 4 => .array .int
  | 5 => .array .int
  | 6 => .array .int
  | 7 => .array (.array .int)
  | 8 => .array .long
  | 9 => .array .long
  | 10 => .array .long
  | 11 => .int
  | 12 => .int
  | _ => .int
theorem nmX5 : ∀ a, a < 14 → ∀ b, b < 14 → a ≠ b → (TX5 a).2.1 ≠ (TX5 b).2.1 := by decide +kernel
theorem tyX5_ok : ∀ k, k < 14 → parseFieldDescriptor (TX5 k).2.2.1 = some (tyX5 k) := by decide +kernel
def RX6 : String := "StaveHouse$Piece"
def TX6 : u_T := fun k => match k with
  | 0 => ("StaveHouse$Piece", "parts", "[LStaveHouse$Part;", true)
  | 1 => ("StaveHouse$Piece", "partCount", "I", false)
  | 2 => ("StaveHouse$Piece", "fifths", "I", false)
  | 3 => ("StaveHouse$Piece", "minor", "I", false)
  | 4 => ("StaveHouse$Piece", "above", "I", false)
  | 5 => ("StaveHouse$Piece", "below", "I", false)
  | 6 => ("StaveHouse$Piece", "tempo", "I", false)
  | 7 => ("StaveHouse$Piece", "bars", "I", false)
  | 8 => ("StaveHouse$Piece", "layout", "LStaveHouse$Layout;", false)
  | 9 => ("StaveHouse$Piece", "performance", "LStaveHouse$Performance;", false)
  | 10 => ("StaveHouse$Piece", "performed", "Z", false)
  | 11 => ("StaveHouse$Piece", "sounded", "Z", false)
  | 12 => ("StaveHouse$Piece", "study", "LStaveHouse$Study;", false)
  | _ => ("StaveHouse$Piece", "studied", "Z", false)
def tyX6 : Nat → FieldType := fun k => match k with
  | 0 => .array (.object "StaveHouse$Part")
  | 1 => .int
  | 2 => .int
  | 3 => .int
  | 4 => .int
  | 5 => .int
  | 6 => .int
  | 7 => .int
  | 8 => .object "StaveHouse$Layout"
  | 9 => .object "StaveHouse$Performance"
  | 10 => .boolean
  | 11 => .boolean
  | 12 => .object "StaveHouse$Study"
  | _ => .boolean
theorem nmX6 : ∀ a, a < 14 → ∀ b, b < 14 → a ≠ b → (TX6 a).2.1 ≠ (TX6 b).2.1 := by decide +kernel
theorem tyX6_ok : ∀ k, k < 14 → parseFieldDescriptor (TX6 k).2.2.1 = some (tyX6 k) := by decide +kernel
def RX7 : String := "StaveHouse$Scribe"
def TX7 : u_T := fun k => match k with
  | 0 => ("StaveHouse$Scribe", "source", "LStaveHouse$SoundFile;", false)
  | 1 => ("StaveHouse$Scribe", "page", "LStaveHouse$ByteRow;", false)
  | 2 => ("StaveHouse$Scribe", "grid", "I", false)
  | 3 => ("StaveHouse$Scribe", "bar", "I", false)
  | 4 => ("StaveHouse$Scribe", "event", "LStaveHouse$Event;", true)
  | 5 => ("StaveHouse$Scribe", "from", "J", false)
  | 6 => ("StaveHouse$Scribe", "to", "J", false)
  | 7 => ("StaveHouse$Scribe", "next", "I", false)
  | _ => ("StaveHouse$Scribe", "hasTone", "[Z", true)
def tyX7 : Nat → FieldType := fun k => match k with
  | 0 => .object "StaveHouse$SoundFile"
  | 1 => .object "StaveHouse$ByteRow"
  | 2 => .int
  | 3 => .int
  | 4 => .object "StaveHouse$Event"
  | 5 => .long
  | 6 => .long
  | 7 => .int
  | _ => .array .boolean
theorem nmX7 : ∀ a, a < 9 → ∀ b, b < 9 → a ≠ b → (TX7 a).2.1 ≠ (TX7 b).2.1 := by decide +kernel
theorem tyX7_ok : ∀ k, k < 9 → parseFieldDescriptor (TX7 k).2.2.1 = some (tyX7 k) := by decide +kernel
def RX8 : String := "StaveHouse$SoundFile"
def TX8 : u_T := fun k => match k with
  | 0 => ("StaveHouse$SoundFile", "head", "[I", true)
  | 1 => ("StaveHouse$SoundFile", "sounds", "[[J", true)
  | 2 => ("StaveHouse$SoundFile", "count", "I", false)
  | 3 => ("StaveHouse$SoundFile", "numbers", "[I", true)
  | 4 => ("StaveHouse$SoundFile", "row", "LStaveHouse$ByteRow;", false)
  | 5 => ("StaveHouse$SoundFile", "at", "I", false)
  | 6 => ("StaveHouse$SoundFile", "limit", "I", false)
  | 7 => ("StaveHouse$SoundFile", "wrong", "I", false)
  | 8 => ("StaveHouse$SoundFile", "track", "I", false)
  | 9 => ("StaveHouse$SoundFile", "status", "I", false)
  | 10 => ("StaveHouse$SoundFile", "tick", "J", false)
  | 11 => ("StaveHouse$SoundFile", "trackDone", "Z", false)
  | 12 => ("StaveHouse$SoundFile", "keyTold", "Z", false)
  | 13 => ("StaveHouse$SoundFile", "timeTold", "Z", false)
  | _ => ("StaveHouse$SoundFile", "tempoTold", "Z", false)
def tyX8 : Nat → FieldType := fun k => match k with
  | 0 => .array .int
  | 1 => .array (.array .long)
  | 2 => .int
  | 3 => .array .int
  | 4 => .object "StaveHouse$ByteRow"
  | 5 => .int
  | 6 => .int
  | 7 => .int
  | 8 => .int
  | 9 => .int
  | 10 => .long
  | 11 => .boolean
  | 12 => .boolean
  | 13 => .boolean
  | _ => .boolean
theorem nmX8 : ∀ a, a < 15 → ∀ b, b < 15 → a ≠ b → (TX8 a).2.1 ≠ (TX8 b).2.1 := by decide +kernel
theorem tyX8_ok : ∀ k, k < 15 → parseFieldDescriptor (TX8 k).2.2.1 = some (tyX8 k) := by decide +kernel
def RX9 : String := "StaveHouse$Study"
def TX9 : u_T := fun k => match k with
  | 0 => ("StaveHouse$Study", "moments", "I", false)
  | 1 => ("StaveHouse$Study", "places", "[J", true)
  | 2 => ("StaveHouse$Study", "faults", "I", false)
  | 3 => ("StaveHouse$Study", "faultRows", "[[I", true)
  | 4 => ("StaveHouse$Study", "eventsAt", "[[I", true)
  | 5 => ("StaveHouse$Study", "steps", "[I", true)
  | 6 => ("StaveHouse$Study", "tones", "[I", true)
  | 7 => ("StaveHouse$Study", "oldSteps", "[I", true)
  | 8 => ("StaveHouse$Study", "oldTones", "[I", true)
  | 9 => ("StaveHouse$Study", "begins", "[Z", true)
  | _ => ("StaveHouse$Study", "letters", "[I", true)
def tyX9 : Nat → FieldType := fun k => match k with
  | 0 => .int
  | 1 => .array .long
  | 2 => .int
  | 3 => .array (.array .int)
  | 4 => .array (.array .int)
  | 5 => .array .int
  | 6 => .array .int
  | 7 => .array .int
  | 8 => .array .int
  | 9 => .array .boolean
  | _ => .array .int
theorem nmX9 : ∀ a, a < 11 → ∀ b, b < 11 → a ≠ b → (TX9 a).2.1 ≠ (TX9 b).2.1 := by decide +kernel
theorem tyX9_ok : ∀ k, k < 11 → parseFieldDescriptor (TX9 k).2.2.1 = some (tyX9 k) := by decide +kernel
def RX10 : String := "StaveHouse$Tokens"
def TX10 : u_T := fun k => match k with
  | 0 => ("StaveHouse$Tokens", "kind", "I", false)
  | 1 => ("StaveHouse$Tokens", "place", "I", false)
  | 2 => ("StaveHouse$Tokens", "value", "J", false)
  | 3 => ("StaveHouse$Tokens", "step", "I", false)
  | 4 => ("StaveHouse$Tokens", "alteration", "I", false)
  | 5 => ("StaveHouse$Tokens", "kinds", "[I", true)
  | 6 => ("StaveHouse$Tokens", "places", "[I", true)
  | 7 => ("StaveHouse$Tokens", "values", "[J", true)
  | _ => ("StaveHouse$Tokens", "next", "I", false)
def tyX10 : Nat → FieldType := fun k => match k with
  | 0 => .int
  | 1 => .int
  | 2 => .long
  | 3 => .int
  | 4 => .int
  | 5 => .array .int
  | 6 => .array .int
  | 7 => .array .long
  | _ => .int
theorem nmX10 : ∀ a, a < 9 → ∀ b, b < 9 → a ≠ b → (TX10 a).2.1 ≠ (TX10 b).2.1 := by decide +kernel
theorem tyX10_ok : ∀ k, k < 9 → parseFieldDescriptor (TX10 k).2.2.1 = some (tyX10 k) := by decide +kernel
def RX11 : String := "StaveHouse$Walker"
def TX11 : u_T := fun k => match k with
  | 0 => ("StaveHouse$Walker", "tree", "LStaveHouse$Parser;", false)
  | 1 => ("StaveHouse$Walker", "part", "LStaveHouse$Part;", false)
  | 2 => ("StaveHouse$Walker", "wrong", "I", false)
  | 3 => ("StaveHouse$Walker", "gone", "I", false)
  | 4 => ("StaveHouse$Walker", "loud", "I", false)
  | 5 => ("StaveHouse$Walker", "backs", "I", false)
  | 6 => ("StaveHouse$Walker", "brackets", "I", false)
  | 7 => ("StaveHouse$Walker", "bracket", "I", false)
  | 8 => ("StaveHouse$Walker", "bracketPlace", "I", false)
  | 9 => ("StaveHouse$Walker", "tupletFirst", "I", false)
  | 10 => ("StaveHouse$Walker", "tupletSecond", "I", false)
  | 11 => ("StaveHouse$Walker", "come", "J", false)
  | 12 => ("StaveHouse$Walker", "farthest", "J", false)
  | 13 => ("StaveHouse$Walker", "bar", "J", false)
  | 14 => ("StaveHouse$Walker", "powers", "[I", true)
  | 15 => ("StaveHouse$Walker", "carrySigns", "[I", true)
  | 16 => ("StaveHouse$Walker", "carrySteps", "[I", true)
  | 17 => ("StaveHouse$Walker", "carryTones", "[I", true)
  | _ => ("StaveHouse$Walker", "carries", "I", false)
def tyX11 : Nat → FieldType := fun k => match k with
  | 0 => .object "StaveHouse$Parser"
  | 1 => .object "StaveHouse$Part"
  | 2 => .int
  | 3 => .int
  | 4 => .int
  | 5 => .int
  | 6 => .int
  | 7 => .int
  | 8 => .int
  | 9 => .int
  | 10 => .int
  | 11 => .long
  | 12 => .long
  | 13 => .long
  | 14 => .array .int
  | 15 => .array .int
  | 16 => .array .int
  | 17 => .array .int
  | _ => .int
theorem nmX11 : ∀ a, a < 19 → ∀ b, b < 19 → a ≠ b → (TX11 a).2.1 ≠ (TX11 b).2.1 := by decide +kernel
theorem tyX11_ok : ∀ k, k < 19 → parseFieldDescriptor (TX11 k).2.2.1 = some (tyX11 k) := by decide +kernel
def RX12 : String := "StaveHouse"
def TX12 : u_T := fun k => match k with
  | 0 => ("StaveHouse", "tape", "LStaveHouse$ByteRow;", true)
  | 1 => ("StaveHouse", "waiting", "[I", true)
  | 2 => ("StaveHouse", "written", "LStaveHouse$ByteRow;", true)
  | 3 => ("StaveHouse", "pieces", "[LStaveHouse$Piece;", true)
  | 4 => ("StaveHouse", "parser", "LStaveHouse$Parser;", true)
  | 5 => ("StaveHouse", "walker", "LStaveHouse$Walker;", true)
  | 6 => ("StaveHouse", "scribe", "LStaveHouse$Scribe;", true)
  | 7 => ("StaveHouse", "spare", "LStaveHouse$Piece;", false)
  | 8 => ("StaveHouse", "opened", "LStaveHouse$SoundFile;", false)
  | _ => ("StaveHouse", "spareFile", "LStaveHouse$SoundFile;", false)
def tyX12 : Nat → FieldType := fun k => match k with
  | 0 => .object "StaveHouse$ByteRow"
  | 1 => .array .int
  | 2 => .object "StaveHouse$ByteRow"
  | 3 => .array (.object "StaveHouse$Piece")
  | 4 => .object "StaveHouse$Parser"
  | 5 => .object "StaveHouse$Walker"
  | 6 => .object "StaveHouse$Scribe"
  | 7 => .object "StaveHouse$Piece"
  | 8 => .object "StaveHouse$SoundFile"
  | _ => .object "StaveHouse$SoundFile"
theorem nmX12 : ∀ a, a < 10 → ∀ b, b < 10 → a ≠ b → (TX12 a).2.1 ≠ (TX12 b).2.1 := by decide +kernel
theorem tyX12_ok : ∀ k, k < 10 → parseFieldDescriptor (TX12 k).2.2.1 = some (tyX12 k) := by decide +kernel
def RX13 : String := "StaveHouseModel$Piece"
def TX13 : u_T := fun k => match k with
  | 0 => ("StaveHouseModel$Piece", "there", "Z", false)
  | 1 => ("StaveHouseModel$Piece", "voices", "I", false)
  | 2 => ("StaveHouseModel$Piece", "fifths", "I", false)
  | 3 => ("StaveHouseModel$Piece", "minor", "Z", false)
  | 4 => ("StaveHouseModel$Piece", "n", "I", false)
  | 5 => ("StaveHouseModel$Piece", "d", "I", false)
  | 6 => ("StaveHouseModel$Piece", "tempo", "I", false)
  | 7 => ("StaveHouseModel$Piece", "bars", "I", false)
  | 8 => ("StaveHouseModel$Piece", "clef", "[I", true)
  | 9 => ("StaveHouseModel$Piece", "number", "[I", true)
  | 10 => ("StaveHouseModel$Piece", "name", "[J", true)
  | 11 => ("StaveHouseModel$Piece", "letters", "[I", true)
  | 12 => ("StaveHouseModel$Piece", "events", "[I", true)
  | 13 => ("StaveHouseModel$Piece", "notes", "[I", true)
  | 14 => ("StaveHouseModel$Piece", "up", "[J", true)
  | 15 => ("StaveHouseModel$Piece", "down", "[J", true)
  | 16 => ("StaveHouseModel$Piece", "lengthUp", "[J", true)
  | 17 => ("StaveHouseModel$Piece", "lengthDown", "[J", true)
  | 18 => ("StaveHouseModel$Piece", "marks", "[I", true)
  | 19 => ("StaveHouseModel$Piece", "loud", "[I", true)
  | 20 => ("StaveHouseModel$Piece", "token", "[I", true)
  | 21 => ("StaveHouseModel$Piece", "many", "[I", true)
  | 22 => ("StaveHouseModel$Piece", "inside", "[I", true)
  | 23 => ("StaveHouseModel$Piece", "ratioUp", "[I", true)
  | 24 => ("StaveHouseModel$Piece", "ratioDown", "[I", true)
  | 25 => ("StaveHouseModel$Piece", "outer", "[I", true)
  | 26 => ("StaveHouseModel$Piece", "outerToken", "[I", true)
  | 27 => ("StaveHouseModel$Piece", "slur", "[Z", true)
  | 28 => ("StaveHouseModel$Piece", "step", "[I", true)
  | 29 => ("StaveHouseModel$Piece", "alt", "[I", true)
  | 30 => ("StaveHouseModel$Piece", "of", "[I", true)
  | 31 => ("StaveHouseModel$Piece", "bar", "[I", true)
  | 32 => ("StaveHouseModel$Piece", "inUp", "[J", true)
  | 33 => ("StaveHouseModel$Piece", "inDown", "[J", true)
  | 34 => ("StaveHouseModel$Piece", "form", "[I", true)
  | 35 => ("StaveHouseModel$Piece", "points", "[I", true)
  | 36 => ("StaveHouseModel$Piece", "held", "[I", true)
  | 37 => ("StaveHouseModel$Piece", "accidentals", "[I", true)
  | 38 => ("StaveHouseModel$Piece", "ledgers", "[I", true)
  | 39 => ("StaveHouseModel$Piece", "group", "[I", true)
  | 40 => ("StaveHouseModel$Piece", "beams", "[I", true)
  | 41 => ("StaveHouseModel$Piece", "stem", "[I", true)
  | 42 => ("StaveHouseModel$Piece", "firstColumn", "[I", true)
  | 43 => ("StaveHouseModel$Piece", "columnUp", "[J", true)
  | 44 => ("StaveHouseModel$Piece", "columnDown", "[J", true)
  | 45 => ("StaveHouseModel$Piece", "columnWide", "[I", true)
  | 46 => ("StaveHouseModel$Piece", "barWide", "[I", true)
  | 47 => ("StaveHouseModel$Piece", "width", "I", false)
  | 48 => ("StaveHouseModel$Piece", "lines", "I", false)
  | 49 => ("StaveHouseModel$Piece", "lineBar", "[I", true)
  | 50 => ("StaveHouseModel$Piece", "lineBars", "[I", true)
  | 51 => ("StaveHouseModel$Piece", "lineWide", "[I", true)
  | 52 => ("StaveHouseModel$Piece", "linePrice", "[J", true)
  | 53 => ("StaveHouseModel$Piece", "performed", "Z", false)
  | 54 => ("StaveHouseModel$Piece", "sounds", "I", false)
  | 55 => ("StaveHouseModel$Piece", "begins", "[I", true)
  | 56 => ("StaveHouseModel$Piece", "ends", "[I", true)
  | 57 => ("StaveHouseModel$Piece", "tone", "[I", true)
  | 58 => ("StaveHouseModel$Piece", "force", "[I", true)
  | 59 => ("StaveHouseModel$Piece", "voiceOf", "[I", true)
  | 60 => ("StaveHouseModel$Piece", "strokes", "I", false)
  | 61 => ("StaveHouseModel$Piece", "strokeTick", "[I", true)
  | 62 => ("StaveHouseModel$Piece", "strokeVoice", "[I", true)
  | 63 => ("StaveHouseModel$Piece", "strokeTone", "[I", true)
  | 64 => ("StaveHouseModel$Piece", "strokeForce", "[I", true)
  | 65 => ("StaveHouseModel$Piece", "made", "I", false)
  | 66 => ("StaveHouseModel$Piece", "latest", "I", false)
  | 67 => ("StaveHouseModel$Piece", "last", "I", false)
  | 68 => ("StaveHouseModel$Piece", "predicted", "I", false)
  | 69 => ("StaveHouseModel$Piece", "index", "I", false)
  | 70 => ("StaveHouseModel$Piece", "heard", "[I", true)
  | 71 => ("StaveHouseModel$Piece", "codes", "[I", true)
  | 72 => ("StaveHouseModel$Piece", "moments", "I", false)
  | 73 => ("StaveHouseModel$Piece", "momentUp", "[J", true)
  | 74 => ("StaveHouseModel$Piece", "momentDown", "[J", true)
  | 75 => ("StaveHouseModel$Piece", "lies", "[I", true)
  | 76 => ("StaveHouseModel$Piece", "faults", "I", false)
  | 77 => ("StaveHouseModel$Piece", "faultMoment", "[I", true)
  | 78 => ("StaveHouseModel$Piece", "faultKind", "[I", true)
  | 79 => ("StaveHouseModel$Piece", "faultFirst", "[I", true)
  | _ => ("StaveHouseModel$Piece", "faultSecond", "[I", true)
def tyX13 : Nat → FieldType := fun k => match k with
  | 0 => .boolean
  | 1 => .int
  | 2 => .int
  | 3 => .boolean
  | 4 => .int
  | 5 => .int
  | 6 => .int
  | 7 => .int
  | 8 => .array .int
  | 9 => .array .int
  | 10 => .array .long
  | 11 => .array .int
  | 12 => .array .int
  | 13 => .array .int
  | 14 => .array .long
  | 15 => .array .long
  | 16 => .array .long
  | 17 => .array .long
  | 18 => .array .int
  | 19 => .array .int
  | 20 => .array .int
  | 21 => .array .int
  | 22 => .array .int
  | 23 => .array .int
  | 24 => .array .int
  | 25 => .array .int
  | 26 => .array .int
  | 27 => .array .boolean
  | 28 => .array .int
  | 29 => .array .int
  | 30 => .array .int
  | 31 => .array .int
  | 32 => .array .long
  | 33 => .array .long
  | 34 => .array .int
  | 35 => .array .int
  | 36 => .array .int
  | 37 => .array .int
  | 38 => .array .int
  | 39 => .array .int
  | 40 => .array .int
  | 41 => .array .int
  | 42 => .array .int
  | 43 => .array .long
  | 44 => .array .long
  | 45 => .array .int
  | 46 => .array .int
  | 47 => .int
  | 48 => .int
  | 49 => .array .int
  | 50 => .array .int
  | 51 => .array .int
  | 52 => .array .long
  | 53 => .boolean
  | 54 => .int
  | 55 => .array .int
  | 56 => .array .int
  | 57 => .array .int
  | 58 => .array .int
  | 59 => .array .int
  | 60 => .int
  | 61 => .array .int
  | 62 => .array .int
  | 63 => .array .int
  | 64 => .array .int
  | 65 => .int
  | 66 => .int
  | 67 => .int
  | 68 => .int
  | 69 => .int
  | 70 => .array .int
  | 71 => .array .int
  | 72 => .int
  | 73 => .array .long
  | 74 => .array .long
  | 75 => .array .int
  | 76 => .int
  | 77 => .array .int
  | 78 => .array .int
  | 79 => .array .int
  | _ => .array .int
theorem nmX13 : ∀ a, a < 81 → ∀ b, b < 81 → a ≠ b → (TX13 a).2.1 ≠ (TX13 b).2.1 := by decide +kernel
theorem tyX13_ok : ∀ k, k < 81 → parseFieldDescriptor (TX13 k).2.2.1 = some (tyX13 k) := by decide +kernel
def RX14 : String := "StaveHouseModel"
def TX14 : u_T := fun k => match k with
  | 0 => ("StaveHouseModel", "ru", "J", false)
  | 1 => ("StaveHouseModel", "rd", "J", false)
  | 2 => ("StaveHouseModel", "tape", "[B", true)
  | 3 => ("StaveHouseModel", "size", "I", false)
  | 4 => ("StaveHouseModel", "waits", "[B", true)
  | 5 => ("StaveHouseModel", "pieces", "[LStaveHouseModel$Piece;", true)
  | 6 => ("StaveHouseModel", "work", "LStaveHouseModel$Piece;", false)
  | 7 => ("StaveHouseModel", "kind", "[I", true)
  | 8 => ("StaveHouseModel", "at", "[I", true)
  | 9 => ("StaveHouseModel", "value", "[I", true)
  | 10 => ("StaveHouseModel", "altered", "[I", true)
  | 11 => ("StaveHouseModel", "word", "[J", true)
  | 12 => ("StaveHouseModel", "tokens", "I", false)
  | 13 => ("StaveHouseModel", "clefs", "[J", true)
  | 14 => ("StaveHouseModel", "louds", "[J", true)
  | 15 => ("StaveHouseModel", "others", "[J", true)
  | 16 => ("StaveHouseModel", "t", "I", false)
  | 17 => ("StaveHouseModel", "fault", "I", false)
  | 18 => ("StaveHouseModel", "place", "I", false)
  | 19 => ("StaveHouseModel", "openMany", "I", false)
  | 20 => ("StaveHouseModel", "nearNumber", "I", false)
  | 21 => ("StaveHouseModel", "nearPoints", "I", false)
  | 22 => ("StaveHouseModel", "hadKey", "Z", false)
  | 23 => ("StaveHouseModel", "hadTime", "Z", false)
  | 24 => ("StaveHouseModel", "hadTempo", "Z", false)
  | 25 => ("StaveHouseModel", "letName", "[J", true)
  | 26 => ("StaveHouseModel", "letOpen", "[I", true)
  | 27 => ("StaveHouseModel", "lets", "I", false)
  | 28 => ("StaveHouseModel", "voiceToken", "[I", true)
  | 29 => ("StaveHouseModel", "voiceOpen", "[I", true)
  | 30 => ("StaveHouseModel", "closeOf", "[I", true)
  | 31 => ("StaveHouseModel", "behind", "[I", true)
  | 32 => ("StaveHouseModel", "lengthNumber", "[I", true)
  | 33 => ("StaveHouseModel", "lengthPoints", "[I", true)
  | 34 => ("StaveHouseModel", "marksOf", "[I", true)
  | 35 => ("StaveHouseModel", "v", "I", false)
  | 36 => ("StaveHouseModel", "made", "I", false)
  | 37 => ("StaveHouseModel", "items", "I", false)
  | 38 => ("StaveHouseModel", "comeUp", "J", false)
  | 39 => ("StaveHouseModel", "comeDown", "J", false)
  | 40 => ("StaveHouseModel", "loud", "I", false)
  | 41 => ("StaveHouseModel", "backs", "I", false)
  | 42 => ("StaveHouseModel", "mirrors", "[Z", true)
  | 43 => ("StaveHouseModel", "steps", "[I", true)
  | 44 => ("StaveHouseModel", "tones", "[I", true)
  | 45 => ("StaveHouseModel", "changes", "I", false)
  | 46 => ("StaveHouseModel", "firsts", "[I", true)
  | 47 => ("StaveHouseModel", "seconds", "[I", true)
  | 48 => ("StaveHouseModel", "brackets", "I", false)
  | 49 => ("StaveHouseModel", "outerToken", "I", false)
  | 50 => ("StaveHouseModel", "outerTimes", "I", false)
  | 51 => ("StaveHouseModel", "powers", "[I", true)
  | 52 => ("StaveHouseModel", "leftUp", "J", false)
  | 53 => ("StaveHouseModel", "leftDown", "J", false)
  | 54 => ("StaveHouseModel", "hereUp", "J", false)
  | 55 => ("StaveHouseModel", "hereDown", "J", false)
  | 56 => ("StaveHouseModel", "bestForm", "I", false)
  | 57 => ("StaveHouseModel", "bestPoints", "I", false)
  | 58 => ("StaveHouseModel", "knows", "[I", true)
  | 59 => ("StaveHouseModel", "least", "[J", true)
  | 60 => ("StaveHouseModel", "most", "[I", true)
  | 61 => ("StaveHouseModel", "forces", "[I", true)
  | 62 => ("StaveHouseModel", "sounds", "I", false)
  | 63 => ("StaveHouseModel", "begins", "[I", true)
  | 64 => ("StaveHouseModel", "ends", "[I", true)
  | 65 => ("StaveHouseModel", "tonesOf", "[I", true)
  | 66 => ("StaveHouseModel", "forcesOf", "[I", true)
  | 67 => ("StaveHouseModel", "voicesOf", "[I", true)
  | 68 => ("StaveHouseModel", "eventsOf", "[I", true)
  | 69 => ("StaveHouseModel", "order", "[I", true)
  | 70 => ("StaveHouseModel", "out", "[B", true)
  | 71 => ("StaveHouseModel", "outs", "I", false)
  | 72 => ("StaveHouseModel", "isOpen", "Z", false)
  | 73 => ("StaveHouseModel", "told", "[I", true)
  | 74 => ("StaveHouseModel", "toldNow", "[I", true)
  | 75 => ("StaveHouseModel", "soundTrack", "[I", true)
  | 76 => ("StaveHouseModel", "soundChannel", "[I", true)
  | 77 => ("StaveHouseModel", "soundTone", "[I", true)
  | 78 => ("StaveHouseModel", "soundForce", "[I", true)
  | 79 => ("StaveHouseModel", "soundBegin", "[J", true)
  | 80 => ("StaveHouseModel", "soundEnd", "[J", true)
  | 81 => ("StaveHouseModel", "trackNumber", "[I", true)
  | 82 => ("StaveHouseModel", "nowTrack", "[I", true)
  | 83 => ("StaveHouseModel", "nowChannel", "[I", true)
  | 84 => ("StaveHouseModel", "nowTone", "[I", true)
  | 85 => ("StaveHouseModel", "nowForce", "[I", true)
  | 86 => ("StaveHouseModel", "nowBegin", "[J", true)
  | 87 => ("StaveHouseModel", "nowEnd", "[J", true)
  | 88 => ("StaveHouseModel", "nowNumber", "[I", true)
  | 89 => ("StaveHouseModel", "p", "I", false)
  | 90 => ("StaveHouseModel", "limit", "J", false)
  | 91 => ("StaveHouseModel", "hasTime", "Z", false)
  | 92 => ("StaveHouseModel", "hasKey", "Z", false)
  | 93 => ("StaveHouseModel", "hasTempo", "Z", false)
  | 94 => ("StaveHouseModel", "nowSounds", "I", false)
  | 95 => ("StaveHouseModel", "sixTones", "[I", true)
  | 96 => ("StaveHouseModel", "table", "[I", true)
  | 97 => ("StaveHouseModel", "moves", "[I", true)
  | 98 => ("StaveHouseModel", "classLetter", "[I", true)
  | 99 => ("StaveHouseModel", "classAlt", "[I", true)
  | 100 => ("StaveHouseModel", "classes", "I", false)
  | 101 => ("StaveHouseModel", "bass", "I", false)
  | 102 => ("StaveHouseModel", "bassStep", "I", false)
  | 103 => ("StaveHouseModel", "bassAlt", "I", false)
  | 104 => ("StaveHouseModel", "chordKind", "I", false)
  | 105 => ("StaveHouseModel", "root", "I", false)
  | _ => ("StaveHouseModel", "weights", "[I", true)
def tyX14 : Nat → FieldType := fun k => match k with
  | 0 => .long
  | 1 => .long
  | 2 => .array .byte
  | 3 => .int
  | 4 => .array .byte
  | 5 => .array (.object "StaveHouseModel$Piece")
  | 6 => .object "StaveHouseModel$Piece"
  | 7 => .array .int
  | 8 => .array .int
  | 9 => .array .int
  | 10 => .array .int
  | 11 => .array .long
  | 12 => .int
  | 13 => .array .long
  | 14 => .array .long
  | 15 => .array .long
  | 16 => .int
  | 17 => .int
  | 18 => .int
  | 19 => .int
  | 20 => .int
  | 21 => .int
  | 22 => .boolean
  | 23 => .boolean
  | 24 => .boolean
  | 25 => .array .long
  | 26 => .array .int
  | 27 => .int
  | 28 => .array .int
  | 29 => .array .int
  | 30 => .array .int
  | 31 => .array .int
  | 32 => .array .int
  | 33 => .array .int
  | 34 => .array .int
  | 35 => .int
  | 36 => .int
  | 37 => .int
  | 38 => .long
  | 39 => .long
  | 40 => .int
  | 41 => .int
  | 42 => .array .boolean
  | 43 => .array .int
  | 44 => .array .int
  | 45 => .int
  | 46 => .array .int
  | 47 => .array .int
  | 48 => .int
  | 49 => .int
  | 50 => .int
  | 51 => .array .int
  | 52 => .long
  | 53 => .long
  | 54 => .long
  | 55 => .long
  | 56 => .int
  | 57 => .int
  | 58 => .array .int
  | 59 => .array .long
  | 60 => .array .int
  | 61 => .array .int
  | 62 => .int
  | 63 => .array .int
  | 64 => .array .int
  | 65 => .array .int
  | 66 => .array .int
  | 67 => .array .int
  | 68 => .array .int
  | 69 => .array .int
  | 70 => .array .byte
  | 71 => .int
  | 72 => .boolean
  | 73 => .array .int
  | 74 => .array .int
  | 75 => .array .int
  | 76 => .array .int
  | 77 => .array .int
  | 78 => .array .int
  | 79 => .array .long
  | 80 => .array .long
  | 81 => .array .int
  | 82 => .array .int
  | 83 => .array .int
  | 84 => .array .int
  | 85 => .array .int
  | 86 => .array .long
  | 87 => .array .long
  | 88 => .array .int
  | 89 => .int
  | 90 => .long
  | 91 => .boolean
  | 92 => .boolean
  | 93 => .boolean
  | 94 => .int
  | 95 => .array .int
  | 96 => .array .int
  | 97 => .array .int
  | 98 => .array .int
  | 99 => .array .int
  | 100 => .int
  | 101 => .int
  | 102 => .int
  | 103 => .int
  | 104 => .int
  | 105 => .int
  | _ => .array .int
theorem nmX14 : ∀ a, a < 107 → ∀ b, b < 107 → a ≠ b → (TX14 a).2.1 ≠ (TX14 b).2.1 := by decide +kernel
theorem tyX14_ok : ∀ k, k < 107 → parseFieldDescriptor (TX14 k).2.2.1 = some (tyX14 k) := by decide +kernel
abbrev cls : List vw_C := [(RX0, TX0, 3), (RX1, TX1, 14), (RX2, TX2, 13), (RX3, TX3, 22), (RX4, TX4, 13), (RX5, TX5, 14), (RX6, TX6, 14), (RX7, TX7, 9), (RX8, TX8, 15), (RX9, TX9, 11), (RX10, TX10, 9), (RX11, TX11, 19), (RX12, TX12, 10), (RX13, TX13, 81), (RX14, TX14, 107)]
abbrev tyL (ca : Nat → ClassId) : List (ClassId × FieldType) := [(ca 0, .int), (ca 1, .long), (ca 2, .byte), (ca 3, .boolean), (ca 4, .object "StaveHouse$Piece"), (ca 5, .object "StaveHouseModel$Piece")]
end
section
def nestL : List (String × Nat × MethodName × String) := [("StaveHouse", 33, ({ cls := "StaveHouse$Parser", name := "<init>", desc := "()V" } : Jvm.MethodName), "StaveHouse"), ("StaveHouse$Parser", 47, ({ cls := "StaveHouse$Tokens", name := "<init>", desc := "()V" } : Jvm.MethodName), "StaveHouse"), ("StaveHouse", 40, ({ cls := "StaveHouse$Walker", name := "<init>", desc := "()V" } : Jvm.MethodName), "StaveHouse"), ("StaveHouse", 47, ({ cls := "StaveHouse$Scribe", name := "<init>", desc := "()V" } : Jvm.MethodName), "StaveHouse"), ("StaveHouse$Scribe", 11, ({ cls := "StaveHouse$Event", name := "<init>", desc := "()V" } : Jvm.MethodName), "StaveHouse"), ("StaveHouse", 67, ({ cls := "StaveHouse$Piece", name := "<init>", desc := "()V" } : Jvm.MethodName), "StaveHouse"), ("StaveHouse$Part", 30, ({ cls := "StaveHouse$Event", name := "<init>", desc := "()V" } : Jvm.MethodName), "StaveHouse"), ("StaveHouse$Piece", 110, ({ cls := "StaveHouse$Study", name := "<init>", desc := "()V" } : Jvm.MethodName), "StaveHouse"), ("StaveHouse$Piece", 99, ({ cls := "StaveHouse$Performance", name := "<init>", desc := "()V" } : Jvm.MethodName), "StaveHouse"), ("StaveHouse", 237, ({ cls := "StaveHouse$Layout", name := "<init>", desc := "()V" } : Jvm.MethodName), "StaveHouse"), ("StaveHouse", 277, ({ cls := "StaveHouse$SoundFile", name := "<init>", desc := "()V" } : Jvm.MethodName), "StaveHouse"), ("StaveHouseModel", 39, ({ cls := "StaveHouseModel$Piece", name := "<init>", desc := "()V" } : Jvm.MethodName), "StaveHouseModel")]
def aoL : List String := ["StaveHouse$Piece", "StaveHouse$Part", "StaveHouseModel$Piece"]
def statL : List (String × String × String × Value) := [("java/lang/String", "COMPACT_STRINGS", "Z", .int 1), ("StaveHouseModel", "KEY", "J", .long 7038329), ("StaveHouseModel", "MAJOR", "J", .long 469785800562), ("StaveHouseModel", "MINOR", "J", .long 469920280434), ("StaveHouseModel", "TIME", "J", .long 1953066341), ("StaveHouseModel", "TEMPO", "J", .long 499917877359), ("StaveHouseModel", "LET", "J", .long 7103860), ("StaveHouseModel", "VOICE", "J", .long 508675318629), ("StaveHouseModel", "REPEAT", "J", .long 125780002955636), ("StaveHouseModel", "ALT", "J", .long 6384756), ("StaveHouseModel", "USE", "J", .long 7697253), ("StaveHouseModel", "MOVE", "J", .long 1836021349), ("StaveHouseModel", "MIRROR", "J", .long 120299659095922), ("StaveHouseModel", "BACK", "J", .long 1650549611), ("StaveHouseModel", "SLOW", "J", .long 1936486263), ("StaveHouseModel", "REST", "J", .long 114)]
def strL : List (String × Nat × String × Nat × List Int32) := [("StaveHouse$SoundFile", 96, "MThd", 4, [77, 84, 104, 100]), ("StaveHouseModel", 65, "treble", 6, [116, 114, 101, 98, 108, 101]), ("StaveHouseModel", 71, "bass", 4, [98, 97, 115, 115]), ("StaveHouseModel", 73, "alto", 4, [97, 108, 116, 111]), ("StaveHouseModel", 75, "tenor", 5, [116, 101, 110, 111, 114]), ("StaveHouseModel", 80, "ppp", 3, [112, 112, 112]), ("StaveHouseModel", 82, "pp", 2, [112, 112]), ("StaveHouseModel", 84, "p", 1, [112]), ("StaveHouseModel", 86, "mp", 2, [109, 112]), ("StaveHouseModel", 88, "mf", 2, [109, 102]), ("StaveHouseModel", 90, "f", 1, [102]), ("StaveHouseModel", 92, "ff", 2, [102, 102]), ("StaveHouseModel", 94, "fff", 3, [102, 102, 102]), ("StaveHouseModel", 969, "MThd", 4, [77, 84, 104, 100])]
/-! ===== the words, once for all contracts ===== -/
def wAll : List Cond := lw_tbl.filter goodWord
theorem wA_good : ∀ w ∈ wAll, goodWord w = true := fun _ h => (List.mem_filter.mp h).2
theorem wA_in : ∀ w ∈ wAll, w ∈ lw_tbl := fun _ h => (List.mem_filter.mp h).1
theorem wA_of {w : Cond} (h : w ∈ lw_tbl) (hg : goodWord w = true) : w ∈ wAll := List.mem_filter.mpr ⟨h, hg⟩
theorem wA_hts {args : Array Value} {s : State} (h : ∀ w ∈ lw_tbl, w.before args s = true) : ∀ w ∈ wAll, w.before args s = true := fun w hw => h w (wA_in w hw)
theorem gdC {y : MethodName} {b : ByteArray} {n : Nat} {r : Option FieldType} (h : Cond.code y b n r ∈ wAll) : GoodIn wAll (Cond.code y b n r :: wAll) := fun w hw =>
  (List.mem_cons.mp hw).elim (fun e => by rw [e]; exact ⟨h, good_of_word (wA_good _ h)⟩) (fun h1 => ⟨h1, good_of_word (wA_good _ h1)⟩)
theorem gdW {ws : List Cond} (h : ∀ w ∈ ws, w ∈ wAll) : GoodIn wAll ws := fun w hw => ⟨h w hw, good_of_word (wA_good _ (h w hw))⟩
theorem gdV {own C : String} {i : Nat} {y : MethodName} {b : ByteArray} {n : Nat} {r : Option FieldType} (h1 : Cond.methodLink own i y ∈ wAll) (h2 : Cond.instanceMethod y ∈ wAll) (h3 : Cond.selects C y y ∈ wAll) (h4 : Cond.initialized C ∈ wAll) (h : Cond.code y b n r ∈ wAll) : GoodIn wAll (wsV own i C y (Cond.code y b n r :: wAll)) := by
  intro w hw
  unfold wsV at hw
  rcases List.mem_append.mp hw with hw | hw
  · refine gdW (ws := [.methodLink own i y, .instanceMethod y, .selects C y y, .initialized C]) ?_ w hw
    exact List.forall_mem_cons.mpr ⟨h1, List.forall_mem_cons.mpr ⟨h2, List.forall_mem_cons.mpr ⟨h3, List.forall_mem_cons.mpr ⟨h4, fun _ h => absurd h List.not_mem_nil⟩⟩⟩⟩
  · exact gdC h w hw
theorem gdS {own : String} {i : Nat} {y : MethodName} {b : ByteArray} {n : Nat} {r : Option FieldType} (h1 : Cond.methodLink own i y ∈ wAll) (h2 : Cond.static y ∈ wAll) (h4 : Cond.initialized y.cls ∈ wAll) (h : Cond.code y b n r ∈ wAll) : GoodIn wAll (va_wsS own i y (Cond.code y b n r :: wAll)) := by
  intro w hw
  unfold va_wsS at hw
  rcases List.mem_append.mp hw with hw | hw
  · refine gdW (ws := [.methodLink own i y, .static y, .initialized y.cls]) ?_ w hw
    exact List.forall_mem_cons.mpr ⟨h1, List.forall_mem_cons.mpr ⟨h2, List.forall_mem_cons.mpr ⟨h4, fun _ h => absurd h List.not_mem_nil⟩⟩⟩
  · exact gdC h w hw
/-! ===== what is known of a row of values ===== -/
def gF {α : Type} (f : Nat → α) (L : List (Nat × α)) : Prop := ∀ q ∈ L, f q.1 = q.2
def gM {α : Type} (f f' : Nat → α) (ks : List Nat) : Prop := ∀ j, ks.contains j = false → f' j = f j
section GF
variable {α : Type} {f f' f0 : Nat → α} {L L' N : List (Nat × α)} {k : Nat} {v : α} {ks ks' : List Nat}
theorem gF_nil : gF f [] := fun _ h => absurd h List.not_mem_nil
theorem gF_cons (h : f k = v) (hL : gF f L) : gF f ((k, v) :: L) := List.forall_mem_cons.mpr ⟨h, hL⟩
theorem gF.at (h : gF f L) (i : Nat) (hi : L[i]? = some (k, v)) : f k = v := h (k, v) (List.mem_of_getElem? hi)
theorem gF.sub (h : gF f L) (is : List Nat) (hl : is.filterMap (fun i => L[i]?) = L') : gF f L' := by
  intro q hq
  rw [← hl] at hq
  obtain ⟨i, -, hi⟩ := List.mem_filterMap.mp hq
  exact h q (List.mem_of_getElem? hi)
theorem gF.put (h : gF f L) (k : Nat) (v : α) (hl : (k, v) :: L.filter (fun q => !(q.1 == k)) = L') : gF (va_up f k v) L' := by
  rw [← hl]
  refine List.forall_mem_cons.mpr ⟨va_up_self f k v, fun q hq => ?_⟩
  obtain ⟨h1, h2⟩ := List.mem_filter.mp hq
  have h3 : q.1 ≠ k := by simpa using h2
  rw [va_up_ne f v h3]
  exact h q h1
theorem gM.rf : gM f f [] := fun _ _ => rfl
theorem gM.up (f : Nat → α) (k : Nat) (v : α) : gM f (va_up f k v) [k] := fun j hj => va_up_ne f v (by simpa using hj)
theorem gM.tr (h : gM f0 f ks) (h2 : gM f f' ks') : gM f0 f' (ks' ++ ks) := fun j hj => by
  have h3 : ks'.contains j = false ∧ ks.contains j = false := by simpa using hj
  rw [h2 j h3.1, h j h3.2]
theorem gM.mono (h : gM f f' ks) (hs : ks.all (fun k => ks'.contains k) = true) : gM f f' ks' := fun j hj => h j (by
  cases hc : ks.contains j with
  | false => rfl
  | true =>
    have h1 := List.all_eq_true.mp hs j (by simpa using hc)
    rw [hj] at h1
    cases h1)
theorem gF.upd (h : gF f L) (hm : gM f f' ks) (hn : gF f' N) (hl : N ++ L.filter (fun q => !(ks.contains q.1)) = L') : gF f' L' := by
  intro q hq
  rw [← hl] at hq
  rcases List.mem_append.mp hq with hq | hq
  · exact hn q hq
  · obtain ⟨h1, h2⟩ := List.mem_filter.mp hq
    rw [hm q.1 (by simpa using h2)]
    exact h q h1
end GF
def rg (N : Nat) (f : Nat → Value) : List Value := (List.range N).map f
theorem rg_get {N k : Nat} {f : Nat → Value} {v : Value} (hk : k < N) (e : f k = v) : (rg N f)[k]? = some v := by
  unfold rg
  rw [List.getElem?_map, List.getElem?_range hk, ← e]
  rfl
theorem rg_len {N : Nat} {f : Nat → Value} : (rg N f).length = N := by simp [rg]
theorem rg_set {N k : Nat} {f : Nat → Value} {v : Value} : (rg N f).set k v = rg N (va_up f k v) := by
  unfold rg
  apply List.ext_getElem?
  intro i
  rw [List.getElem?_set, List.getElem?_map, List.getElem?_map]
  by_cases hi : i < N
  · rw [List.getElem?_range hi]
    by_cases e : k = i
    · subst e
      simp [va_up, hi]
    · have e2 : ¬ i = k := fun z => e z.symm
      simp [va_up, e, e2]
  · have hn : (List.range N)[i]? = none := List.getElem?_eq_none (by rw [List.length_range]; omega)
    rw [hn]
    by_cases e : k = i
    · subst e
      simp [hi]
    · simp [e]
theorem rg_V {N k : Nat} {f : Nat → Value} (hk : k < N) : vp_V (rg N f) k = f k := by
  unfold vp_V
  rw [List.getD_eq_getElem?_getD, rg_get hk rfl]
  rfl
theorem wA_1 {j : Nat} {w : Cond} (h : tables_1_1[j]? = some w) (hg : goodWord w = true) : w ∈ wAll := wA_of (List.mem_append_right _ (by unfold tables_1; exact List.mem_append_left _ (List.mem_of_getElem? h))) hg
theorem wA_2 {j : Nat} {w : Cond} (h : tables_1_2[j]? = some w) (hg : goodWord w = true) : w ∈ wAll := wA_of (List.mem_append_right _ (by unfold tables_1; exact List.mem_append_right _ (List.mem_append_left _ (List.mem_of_getElem? h)))) hg
theorem wA_3 {j : Nat} {w : Cond} (h : tables_1_3[j]? = some w) (hg : goodWord w = true) : w ∈ wAll := wA_of (List.mem_append_right _ (by unfold tables_1; exact List.mem_append_right _ (List.mem_append_right _ (List.mem_append_left _ (List.mem_of_getElem? h))))) hg
theorem wA_4 {j : Nat} {w : Cond} (h : tables_1_4[j]? = some w) (hg : goodWord w = true) : w ∈ wAll := wA_of (List.mem_append_right _ (by unfold tables_1; exact List.mem_append_right _ (List.mem_append_right _ (List.mem_append_right _ (List.mem_append_left _ (List.mem_of_getElem? h)))))) hg
theorem wA_5 {j : Nat} {w : Cond} (h : tables_1_5[j]? = some w) (hg : goodWord w = true) : w ∈ wAll := wA_of (List.mem_append_right _ (by unfold tables_1; exact List.mem_append_right _ (List.mem_append_right _ (List.mem_append_right _ (List.mem_append_right _ (List.mem_append_left _ (List.mem_of_getElem? h))))))) hg
theorem wA_6 {j : Nat} {w : Cond} (h : tables_1_6[j]? = some w) (hg : goodWord w = true) : w ∈ wAll := wA_of (List.mem_append_right _ (by unfold tables_1; exact List.mem_append_right _ (List.mem_append_right _ (List.mem_append_right _ (List.mem_append_right _ (List.mem_append_right _ (List.mem_append_left _ (List.mem_of_getElem? h)))))))) hg
theorem wA_7 {j : Nat} {w : Cond} (h : tables_1_7[j]? = some w) (hg : goodWord w = true) : w ∈ wAll := wA_of (List.mem_append_right _ (by unfold tables_1; exact List.mem_append_right _ (List.mem_append_right _ (List.mem_append_right _ (List.mem_append_right _ (List.mem_append_right _ (List.mem_append_right _ (List.mem_append_left _ (List.mem_of_getElem? h))))))))) hg
theorem wA_8 {j : Nat} {w : Cond} (h : tables_1_8[j]? = some w) (hg : goodWord w = true) : w ∈ wAll := wA_of (List.mem_append_right _ (by unfold tables_1; exact List.mem_append_right _ (List.mem_append_right _ (List.mem_append_right _ (List.mem_append_right _ (List.mem_append_right _ (List.mem_append_right _ (List.mem_append_right _ (List.mem_append_left _ (List.mem_of_getElem? h)))))))))) hg
theorem wA_9 {j : Nat} {w : Cond} (h : tables_1_9[j]? = some w) (hg : goodWord w = true) : w ∈ wAll := wA_of (List.mem_append_right _ (by unfold tables_1; exact List.mem_append_right _ (List.mem_append_right _ (List.mem_append_right _ (List.mem_append_right _ (List.mem_append_right _ (List.mem_append_right _ (List.mem_append_right _ (List.mem_append_right _ (List.mem_append_left _ (List.mem_of_getElem? h))))))))))) hg
theorem wA_10 {j : Nat} {w : Cond} (h : tables_1_10[j]? = some w) (hg : goodWord w = true) : w ∈ wAll := wA_of (List.mem_append_right _ (by unfold tables_1; exact List.mem_append_right _ (List.mem_append_right _ (List.mem_append_right _ (List.mem_append_right _ (List.mem_append_right _ (List.mem_append_right _ (List.mem_append_right _ (List.mem_append_right _ (List.mem_append_right _ (List.mem_append_left _ (List.mem_of_getElem? h)))))))))))) hg
theorem wA_11 {j : Nat} {w : Cond} (h : tables_1_11[j]? = some w) (hg : goodWord w = true) : w ∈ wAll := wA_of (List.mem_append_right _ (by unfold tables_1; exact List.mem_append_right _ (List.mem_append_right _ (List.mem_append_right _ (List.mem_append_right _ (List.mem_append_right _ (List.mem_append_right _ (List.mem_append_right _ (List.mem_append_right _ (List.mem_append_right _ (List.mem_append_right _ (List.mem_append_left _ (List.mem_of_getElem? h))))))))))))) hg
theorem wA_12 {j : Nat} {w : Cond} (h : tables_1_12[j]? = some w) (hg : goodWord w = true) : w ∈ wAll := wA_of (List.mem_append_right _ (by unfold tables_1; exact List.mem_append_right _ (List.mem_append_right _ (List.mem_append_right _ (List.mem_append_right _ (List.mem_append_right _ (List.mem_append_right _ (List.mem_append_right _ (List.mem_append_right _ (List.mem_append_right _ (List.mem_append_right _ (List.mem_append_right _ (List.mem_append_left _ (List.mem_of_getElem? h)))))))))))))) hg
theorem wA_13 {j : Nat} {w : Cond} (h : tables_1_13[j]? = some w) (hg : goodWord w = true) : w ∈ wAll := wA_of (List.mem_append_right _ (by unfold tables_1; exact List.mem_append_right _ (List.mem_append_right _ (List.mem_append_right _ (List.mem_append_right _ (List.mem_append_right _ (List.mem_append_right _ (List.mem_append_right _ (List.mem_append_right _ (List.mem_append_right _ (List.mem_append_right _ (List.mem_append_right _ (List.mem_append_right _ (List.mem_append_left _ (List.mem_of_getElem? h))))))))))))))) hg
theorem wA_14 {j : Nat} {w : Cond} (h : tables_1_14[j]? = some w) (hg : goodWord w = true) : w ∈ wAll := wA_of (List.mem_append_right _ (by unfold tables_1; exact List.mem_append_right _ (List.mem_append_right _ (List.mem_append_right _ (List.mem_append_right _ (List.mem_append_right _ (List.mem_append_right _ (List.mem_append_right _ (List.mem_append_right _ (List.mem_append_right _ (List.mem_append_right _ (List.mem_append_right _ (List.mem_append_right _ (List.mem_append_right _ (List.mem_append_left _ (List.mem_of_getElem? h)))))))))))))))) hg
theorem wA_15 {j : Nat} {w : Cond} (h : tables_1_15[j]? = some w) (hg : goodWord w = true) : w ∈ wAll := wA_of (List.mem_append_right _ (by unfold tables_1; exact List.mem_append_right _ (List.mem_append_right _ (List.mem_append_right _ (List.mem_append_right _ (List.mem_append_right _ (List.mem_append_right _ (List.mem_append_right _ (List.mem_append_right _ (List.mem_append_right _ (List.mem_append_right _ (List.mem_append_right _ (List.mem_append_right _ (List.mem_append_right _ (List.mem_append_right _ (List.mem_of_getElem? h)))))))))))))))) hg
theorem wA_s {j : Nat} {w : Cond} (h : (k2_sels lw_privs)[j]? = some w) (hg : goodWord w = true) : w ∈ wAll := wA_of (List.mem_append_left _ (List.mem_of_getElem? h)) hg
end
section
/-! ===== what stands beside the world: links of nest mates, array classes, statics, texts ===== -/
def gX (ad av : Nat → Nat) (A : Nat → Prop) (U : State) (H : Heap) : Prop :=
  (∀ q ∈ nestL, va_Nw (.methodLinkNest q.1 q.2.1 q.2.2.1 q.2.2.2) U) ∧ (∀ C ∈ aoL, va_AO C U) ∧ ((Cond.arrayOver (.array .long)).before #[] U = true) ∧ (∀ q ∈ statL, va_Z q.1 q.2.1 q.2.2.1 q.2.2.2 A U H) ∧
  ∀ (i : Nat) (q : String × Nat × String × Nat × List Int32), strL[i]? = some q → vk_R q.1 q.2.1 q.2.2.1 (ad i) U ∧ vk_S 1 [q.2.2.2.1] [q.2.2.2.2] (fun _ => ad i) (fun _ => av i) A U H
theorem gX.to {ad av : Nat → Nat} {A B : Nat → Prop} {s U : State} (h : gX ad av A s s.heap) (hW : s.WarmedH U.vm) (hk : ∀ a : Nat, a < s.heap.size → ¬ A a → U.heap[a]? = s.heap[a]?) (hAB : ∀ q, B q → A q) : gX ad av B U U.heap :=
  ⟨fun q hq => va_Nw.warmM hW (h.1 q hq), fun C hC => va_AO.moved hW.alike (h.2.1 C hC), over_moved hW.alike h.2.2.1, fun q hq => ((va_Z.moved hW.alike (h.2.2.2.1 q hq)).kept hk).narrow hAB,
    fun i q hq => ⟨vk_R.warm hW (h.2.2.2.2 i q hq).1, ((vk_S.moved hW.alike (h.2.2.2.2 i q hq).2).kept hk).narrow hAB⟩⟩
theorem gX.same {ad av : Nat → Nat} {A : Nat → Prop} {u U : State} (h : gX ad av A u u.heap) (hv : U.vm = u.vm) (hh : U.heap = u.heap) : gX ad av A U U.heap := by
  have hal : u.vm.Alike U.vm := by rw [hv]; exact Vm.Alike.refl _
  rw [hh]
  exact ⟨fun q hq => va_Nw.same rfl hv.symm (h.1 q hq), fun C hC => va_AO.moved hal (h.2.1 C hC), over_moved hal h.2.2.1, fun q hq => va_Z.moved hal (h.2.2.2.1 q hq),
    fun i q hq => ⟨vk_R.same hv (h.2.2.2.2 i q hq).1, vk_S.moved hal (h.2.2.2.2 i q hq).2⟩⟩
/-! ===== the shape of every contract ===== -/
def gPre (D : va_G) (ca : Nat → ClassId) (ad av : Nat → Nat) (ws : va_W) (sz : Nat) : State → Prop := fun U =>
  U.heap.size = sz ∧ va_P D cls ws U.heap ∧ va_K D cls (tyL ca) U ∧ va_D (fun _ => True) ws ∧ gX ad av (va_A ws sz) U U.heap
def gB (D : va_G) (ca : Nat → ClassId) (A : Nat → Prop) (ws : va_W) (t : State) : Prop := va_P D cls ws t.heap ∧ va_K D cls (tyL ca) t ∧ va_D A ws
theorem gMet {l : Launch} {y : MethodName} {b : ByteArray} {n : Nat} {ret : Option FieldType} {rm : Room} {D : va_G} {ca : Nat → ClassId} {ad av : Nat → Nat} {ws : va_W} {sz mc ms : Nat} {args : List Value} {Qc : (Nat → Prop) → Array Value → State → Outcome → State → Prop} {lv : List (Nat × Value)}
    (hy : plainName y.cls = true) (hn : (lg_sl args).length ≤ n) (hlv : lv_args 0 args = lv)
    (body : ∀ (A : Nat → Prop) p e s m below meth c ls, p.tables.exec = Jvm.exec → c.code = b → meth.sig.returnType = ret → c.maxLocals = n → s.vm.findClass y.cls = some m.cls → (∀ w ∈ wAll, w.before args.toArray s = true) → meth.locks = false → meth.name = y.name → lv_has ls n lv →
      va_P D cls ws s.heap → va_K D cls (tyL ca) s → va_D A ws → va_S A s.heap s.heap [] → (∀ q, s.heap.size ≤ q → A q) → gX ad av A s s.heap →
      W p l e rm s m args.toArray below meth c s.heap [] 0 0 (MQ below (Qc A) args.toArray s mc ms A) (F0 m 0 ls [])) :
    Met l y (Cond.code y b n ret :: wAll) rm (va_Pc args (gPre D ca ad av ws sz)) (Qc (va_A ws sz)) mc ms (va_A ws sz) := by
  refine Met.ofW (cc := b) (maxL := n) (ret := ret) hy rfl ?_
  intro p e s m args' below meth c s₁ B hml hv
  obtain ⟨rfl, hsz, hP, hK, hD0, hX⟩ := hv
  have hts := atoms_spec (ws := Cond.code y b n ret :: wAll) B.pre
  have hown : s.vm.findClass y.cls = some m.cls := findClass_of_methodNamed B.named
  have hnm : meth.name = y.name := (name_of_methodNamed B.named B.method).1
  subst hsz
  have hD := hD0.self (sz := s.heap.size)
  have hA : ∀ q : Nat, s.heap.size ≤ q → va_A ws s.heap.size q := fun q h => Or.inr h
  have hl := lv_entry args (n := n) hn
  rw [hlv] at hl
  rw [lg_entry_eq]
  exact body (va_A ws s.heap.size) p e s m below meth c _ B.exec B.bytes B.returns hml hown (fun w hw => hts w (List.mem_cons_of_mem _ hw)) B.notSynchronized hnm hl hP hK hD va_S.rf hA hX
theorem gBlind {D : va_G} {ca : Nat → ClassId} {ad av : Nat → Nat} {ws : va_W} {sz : Nat} {As : List Value} : FrameBlind (va_Pc As (gPre D ca ad av ws sz)) := fun a U g mk q => by
  obtain ⟨q0, q1, qP, qK, qD, qX⟩ := q
  exact ⟨q0, q1, qP, va_K.moved (u := U) (U := U.calling g mk a) (Vm.Alike.refl U.vm) qK, qD, qX.same (U := U.calling g mk a) rfl rfl⟩
theorem gAt {D : va_G} {ca : Nat → ClassId} {ad av : Nat → Nat} {ws wc : va_W} {A : Nat → Prop} {s : State} {H : Heap} {locs : List Loc} (hP : va_P D cls ws H) (hD : va_D A ws) (hK : va_K D cls (tyL ca) s) (hS : va_S A s.heap H locs) (hA : ∀ q, s.heap.size ≤ q → A q) (hX : gX ad av A s s.heap) (isC : List Nat) (hn : va_nd isC = true) (hC : isC.map (fun i => ws[i]?) = wc.map some) (As : List Value) :
    ∀ U : State, U.heap = H → s.WarmedH U.vm → va_Pc As (gPre D ca ad av wc H.size) As.toArray U := by
  intro U hU hW
  have hP2 : va_P D cls wc H := by
    intro k q hq
    have h1 : (isC.map (fun i => ws[i]?))[k]? = some (some q) := by rw [hC, List.getElem?_map, hq]; rfl
    rw [List.getElem?_map] at h1
    cases hi : isC[k]? with
    | none => rw [hi] at h1; cases h1
    | some i => rw [hi] at h1; exact hP i q (Option.some.inj h1)
  refine ⟨rfl, by rw [hU], by rw [hU]; exact hP2, va_K.moved hW.alike hK, (hD.sub isC hn hC).weaken (fun _ _ _ _ => trivial), ?_⟩
  exact hX.to hW (fun a h1 h2 => by rw [hU]; exact hS.2.1 a h1 h2) (va_free hD hS hA isC hC)
theorem gPS {D : va_G} {ca : Nat → ClassId} {ad av : Nat → Nat} {ws wc : va_W} {A : Nat → Prop} {s : State} {H : Heap} {locs : List Loc} (hP : va_P D cls ws H) (hD : va_D A ws) (hK : va_K D cls (tyL ca) s) (hS : va_S A s.heap H locs) (hA : ∀ q, s.heap.size ≤ q → A q) (hX : gX ad av A s s.heap) (isC : List Nat) (hn : va_nd isC = true) (hC : isC.map (fun i => ws[i]?) = wc.map some) (As : List Value) :
    PreS s H (va_Pc As (gPre D ca ad av wc H.size)) As := ⟨gBlind, gAt hP hD hK hS hA hX isC hn hC As⟩
theorem gPV {D : va_G} {ca : Nat → ClassId} {ad av : Nat → Nat} {ws wc : va_W} {A : Nat → Prop} {s : State} {H : Heap} {locs : List Loc} (hP : va_P D cls ws H) (hD : va_D A ws) (hK : va_K D cls (tyL ca) s) (hS : va_S A s.heap H locs) (hA : ∀ q, s.heap.size ≤ q → A q) (hX : gX ad av A s s.heap) (isC : List Nat) (hn : va_nd isC = true) (hC : isC.map (fun i => ws[i]?) = wc.map some) (b : Nat) (As : List Value)
    (q0 : Nat) {ci : Nat} {fs : List Value} {r : vw_C} (hc : cls[ci]? = some r) (he : ws[q0]? = some (b, .inr (ci, fs))) : PreV s H r.1 b (va_Pc (.ref b :: As) (gPre D ca ad av wc H.size)) As :=
  ⟨gBlind, va_recv hK hP hc he, gAt hP hD hK hS hA hX isC hn hC (.ref b :: As)⟩
theorem gJoin {D : va_G} {ca : Nat → ClassId} {A : Nat → Prop} {ws wc wr w1 : va_W} {H H1 : Heap} {t : State} (hP : va_P D cls ws H) (hD : va_D A ws) (isC isR : List Nat) (hC : isC.map (fun i => ws[i]?) = wc.map some) (hR : isR.map (fun i => ws[i]?) = wr.map some) (hn : va_nd isR = true) (hdis : isR.all (fun i => !isC.contains i) = true)
    (hk : ∀ q : Nat, q < H.size → ¬ va_A wc H.size q → H1[q]? = H[q]?) (hF : ∀ q, va_A wc H.size q → A q) (ht : t.heap = H1) (hB : gB D ca (va_A wc H.size) w1 t) : va_P D cls (wr ++ w1) H1 ∧ va_D A (wr ++ w1) := by
  obtain ⟨h1, -, h3⟩ := hB
  rw [ht] at h1
  exact va_join hP hD isC isR hC hR hn (fun i hi => by simpa using List.all_eq_true.mp hdis i hi) hk hF h1 h3
/-! ===== fields, by what is known of them ===== -/
section GW
variable {p : Program} {l : Launch} {e : Env} {R : Room} {s : State} {m : MethodId} {args : Array Value} {below : List Frame} {meth : Method} {c : Code} {H : Heap} {locs : List Loc} {cells slots : Nat} {Q : State → Prop}
variable {cc : ByteArray} {pc : Nat} {ls : Array Slot} {rest : List Value} {D : va_G} {A : Nat → Prop} {a : Nat} {tys : List (ClassId × FieldType)} {ws : va_W} {H0 : Heap}
variable {own C : String} {T : u_T} {N ci index : Nat} {f : Nat → Value} {L : List (Nat × Value)}
theorem gget (hx : p.tables.exec = Jvm.exec) (hb : c.code = cc) (hts : ∀ w ∈ wAll, w.before args s = true) (hin : ∀ w ∈ u_ws C T N, w ∈ wAll) (hown : s.vm.findClass own = some m.cls) (hK : va_K D cls tys s) (hP : va_P D cls ws H) (q0 : Nat) (he : ws[q0]? = some (a, .inr (ci, rg N f))) (hc : cls[ci]? = some (C, T, N)) (hF : gF f L) (i : Nat) {k : Nat} {v : Value} (hi : L[i]? = some (k, v)) (hk : k < N)
    (hlink : Cond.fieldLink own index (T k).1 (T k).2.1 (T k).2.2.1 ∈ wAll) (hdg : decode cc pc = .ok (.getfield index, 3)) (kk : W p l e R s m args below meth c H locs cells slots Q (F0 m (pc + 3) ls (v :: rest))) : W p l e R s m args below meth c H locs cells slots Q (F0 m pc ls (.ref a :: rest)) :=
  va_get hx hb hts hin hown hK hP q0 he hc k hk (hts _ hlink) (fun _ h => h) (rg_get hk (hF.at i hi)) hdg kk
theorem gput (hx : p.tables.exec = Jvm.exec) (hb : c.code = cc) (hts : ∀ w ∈ wAll, w.before args s = true) (hin : ∀ w ∈ u_ws C T N, w ∈ wAll) (ty0 : Nat → FieldType) (hty : ∀ k, k < N → parseFieldDescriptor (T k).2.2.1 = some (ty0 k)) (hnm : ∀ a, a < N → ∀ b, b < N → a ≠ b → (T a).2.1 ≠ (T b).2.1) (hown : s.vm.findClass own = some m.cls) (hK : va_K D cls tys s) (hP : va_P D cls ws H) (hD : va_D A ws) (hS : va_S A H0 H locs) (q0 : Nat) (he : ws[q0]? = some (a, .inr (ci, rg N f))) (hc : cls[ci]? = some (C, T, N)) (hF : gF f L) (k : Nat) (hk : k < N)
    (hlink : Cond.fieldLink own index (T k).1 (T k).2.1 (T k).2.2.1 ∈ wAll) (hfin : (T k).2.2.2 = false) {v : Value} (hn : narrow (ty0 k) v = v) (hfit : fits (ty0 k) v = true) (hdg : decode cc pc = .ok (.putfield index, 3)) {L' : List (Nat × Value)} (hL : (k, v) :: L.filter (fun q => !(q.1 == k)) = L')
    (kk : ∀ (f' : Nat → Value) (H1 : Heap) (locs1 : List Loc), gF f' L' → gM f f' [k] → va_P D cls (ws.set q0 (a, .inr (ci, rg N f'))) H1 → va_D A (ws.set q0 (a, .inr (ci, rg N f'))) → va_S A H0 H1 locs1 → W p l e R s m args below meth c H1 locs1 cells slots Q (F0 m (pc + 3) ls rest)) : W p l e R s m args below meth c H locs cells slots Q (F0 m pc ls (v :: .ref a :: rest)) := by
  refine va_put hx hb hts hin ty0 hty hnm hown hK hP hD hS q0 he hc k hk (hts _ hlink) (fun _ h => h) hfin (hty k hk) hn hfit (by rw [rg_len]; exact hk) hdg (fun H1 locs1 hP1 hD1 hS1 => ?_)
  rw [rg_set] at hP1 hD1
  exact kk (va_up f k v) H1 locs1 (hF.put k v hL) (gM.up f k v) hP1 hD1 hS1
theorem gputF (hx : p.tables.exec = Jvm.exec) (hb : c.code = cc) (hts : ∀ w ∈ wAll, w.before args s = true) (hin : ∀ w ∈ u_ws C T N, w ∈ wAll) (ty0 : Nat → FieldType) (hty : ∀ k, k < N → parseFieldDescriptor (T k).2.2.1 = some (ty0 k)) (hnm : ∀ a, a < N → ∀ b, b < N → a ≠ b → (T a).2.1 ≠ (T b).2.1) (hown : s.vm.findClass own = some m.cls) (hK : va_K D cls tys s) (hP : va_P D cls ws H) (hD : va_D A ws) (hS : va_S A H0 H locs) (q0 : Nat) (he : ws[q0]? = some (a, .inr (ci, rg N f))) (hc : cls[ci]? = some (C, T, N)) (hF : gF f L) (k : Nat) (hk : k < N)
    (hlink : Cond.fieldLink own index (T k).1 (T k).2.1 (T k).2.2.1 ∈ wAll) (hfin : (T k).2.2.2 = true) (hin2 : meth.name = "<init>") (hdecl : (T k).1 = own) {v : Value} (hn : narrow (ty0 k) v = v) (hfit : fits (ty0 k) v = true) (hdg : decode cc pc = .ok (.putfield index, 3)) {L' : List (Nat × Value)} (hL : (k, v) :: L.filter (fun q => !(q.1 == k)) = L')
    (kk : ∀ (f' : Nat → Value) (H1 : Heap) (locs1 : List Loc), gF f' L' → gM f f' [k] → va_P D cls (ws.set q0 (a, .inr (ci, rg N f'))) H1 → va_D A (ws.set q0 (a, .inr (ci, rg N f'))) → va_S A H0 H1 locs1 → W p l e R s m args below meth c H1 locs1 cells slots Q (F0 m (pc + 3) ls rest)) : W p l e R s m args below meth c H locs cells slots Q (F0 m pc ls (v :: .ref a :: rest)) := by
  refine va_putF hx hb hts hin ty0 hty hnm hown hK hP hD hS q0 he hc k hk (hts _ hlink) (fun _ h => h) hfin hin2 hdecl (hty k hk) hn hfit (by rw [rg_len]; exact hk) hdg (fun H1 locs1 hP1 hD1 hS1 => ?_)
  rw [rg_set] at hP1 hD1
  exact kk (va_up f k v) H1 locs1 (hF.put k v hL) (gM.up f k v) hP1 hD1 hS1
theorem gnew (hx : p.tables.exec = Jvm.exec) (hb : c.code = cc) (hts : ∀ w ∈ wAll, w.before args s = true) (hin : ∀ w ∈ u_ws C T N, w ∈ wAll) (ty0 : Nat → FieldType) (hty : ∀ k, k < N → parseFieldDescriptor (T k).2.2.1 = some (ty0 k)) (hown : s.vm.findClass own = some m.cls) (hcl : Cond.classLink own index C ∈ wAll) (hinst : Cond.instantiable C N ∈ wAll) (hini : Cond.initialized C ∈ wAll)
    (hK : va_K D cls tys s) (hP : va_P D cls ws H) (hD : va_D A ws) (hS : va_S A H0 H locs) (hA : ∀ q, H0.size ≤ q → A q) (hc : cls[ci]? = some (C, T, N)) (hcells : cells + 1 ≤ R.cells) (hslots : slots + N ≤ R.slots) (hdg : decode cc pc = .ok (.new index, 3)) (hL : gF (fun j => defaultValue (ty0 j)) L)
    (kk : ∀ (f' : Nat → Value) (q : Nat) (H1 : Heap), gF f' L → va_P D cls (ws ++ [(q, .inr (ci, rg N f'))]) H1 → va_D A (ws ++ [(q, .inr (ci, rg N f'))]) → va_S A H0 H1 locs → W p l e R s m args below meth c H1 locs (cells + 1) (slots + N) Q (F0 m (pc + 3) ls (.ref q :: rest))) : W p l e R s m args below meth c H locs cells slots Q (F0 m pc ls rest) :=
  va_new (fs := rg N (fun j => defaultValue (ty0 j))) hx hb hts hin ty0 hty hown (hts _ hcl) (hts _ hinst) (hts _ hini) hK hP hD hS hA hc (fun j hj => (rg_V (f := fun j => defaultValue (ty0 j)) hj).symm) hcells hslots hdg (fun q H1 h1 h2 h3 => kk _ q H1 hL h1 h2 h3)
/-- a new array that nobody looks into: it leaves the world at once -/
theorem gnewaX (hx : p.tables.exec = Jvm.exec) (hb : c.code = cc) (hts : ∀ w ∈ wAll, w.before args s = true) {atype : ArrayType} (harr : Cond.arrayClass (newarray.typeOf atype) ∈ wAll) (hP : va_P D cls ws H) (hS : va_S A H0 H locs) {n : Int32} {N' : Nat} (hn : ¬ n < 0) (hN : n.toNatClampNeg = N') (hbytes : N' * componentBytes (newarray.typeOf atype) ≤ 536870912) (hcells : cells + 1 ≤ R.cells) (hslots : slots + N' ≤ R.slots) (hdg : decode cc pc = .ok (.newarray atype, 2))
    (kk : ∀ (q : Nat) (H1 : Heap), va_P D cls ws H1 → va_S A H0 H1 locs → W p l e R s m args below meth c H1 locs (cells + 1) (slots + N') Q (F0 m (pc + 2) ls (.ref q :: rest))) : W p l e R s m args below meth c H locs cells slots Q (F0 m pc ls (.int n :: rest)) := by
  refine va_newaK hx hb (hts _ harr) rfl hdg rfl hn hN hbytes hcells hslots rfl fun H1 cA e1 z1 o1 hAr hNm => ?_
  exact kk H.size H1 (hP.kept (fun k x hx => o1 x.1 ((hP k x hx).lt))) ⟨Nat.le_trans hS.1 (by omega), fun x h1 h2 => (o1 x (Nat.lt_of_lt_of_le h1 hS.1)).trans (hS.2.1 x h1 h2), hS.2.2⟩
theorem gnewqX (hx : p.tables.exec = Jvm.exec) (hb : c.code = cc) (hts : ∀ w ∈ wAll, w.before args s = true) (hown : s.vm.findClass own = some m.cls) (hcl : Cond.classLink own index C ∈ wAll) (hover : va_AO C s) (hK : va_K D cls tys s) (hP : va_P D cls ws H) (hD : va_D A ws) (hS : va_S A H0 H locs) (hA : ∀ q, H0.size ≤ q → A q) {n : Int32} {N' : Nat} (hn : ¬ n < 0) (hN : n.toNatClampNeg = N') (hbytes : N' * 4 ≤ 536870912) (hcells : cells + 1 ≤ R.cells) (hslots : slots + N' ≤ R.slots) (hdg : decode cc pc = .ok (.anewarray index, 3))
    (kk : ∀ (q : Nat) (H1 : Heap), va_P D cls ws H1 → va_S A H0 H1 locs → W p l e R s m args below meth c H1 locs (cells + 1) (slots + N') Q (F0 m (pc + 3) ls (.ref q :: rest))) : W p l e R s m args below meth c H locs cells slots Q (F0 m pc ls (.int n :: rest)) := by
  refine va_newq hx hb hown (hts _ hcl) hover hK hP hD hS hA hn hN hbytes hcells hslots hdg (fun q cA H1 hK1 hP1 hD1 hS1 => kk q H1 (fun k x hx => hP1 k x ?_) hS1)
  rw [List.getElem?_append_left ((List.getElem?_eq_some_iff.mp hx).1)]
  exact hx
/-- a new array of known class -/
theorem gnewa (hx : p.tables.exec = Jvm.exec) (hb : c.code = cc) (hts : ∀ w ∈ wAll, w.before args s = true) {atype : ArrayType} {ty : FieldType} (hty : newarray.typeOf atype = ty) (harr : Cond.arrayClass (newarray.typeOf atype) ∈ wAll) (hK : va_K D cls tys s) (t0 : Nat) {cy : ClassId} (ht : tys[t0]? = some (cy, ty)) (hu : ∀ c1 c2, va_RA s c1 ty → va_RA s c2 ty → c1 = c2) (hP : va_P D cls ws H) (hD : va_D A ws) (hS : va_S A H0 H locs) (hA : ∀ q, H0.size ≤ q → A q)
    {n : Int32} {N' : Nat} {a0 : vp_A} (ha : ∀ cA : ClassId, vp_cell cA a0 = arrV cA N' (fun _ => defaultValue ty)) (hn : ¬ n < 0) (hN : n.toNatClampNeg = N') (hbytes : N' * componentBytes ty ≤ 536870912) (hcells : cells + 1 ≤ R.cells) (hslots : slots + N' ≤ R.slots) (hdg : decode cc pc = .ok (.newarray atype, 2))
    (kk : ∀ (q : Nat) (H1 : Heap), va_P D cls (ws ++ [(q, .inl (cy, a0))]) H1 → va_D A (ws ++ [(q, .inl (cy, a0))]) → va_S A H0 H1 locs →
      W p l e R s m args below meth c H1 locs (cells + 1) (slots + N') Q (F0 m (pc + 2) ls (.ref q :: rest))) : W p l e R s m args below meth c H locs cells slots Q (F0 m pc ls (.int n :: rest)) := by
  refine va_newa hx hb (hts _ harr) hty hK hP hD hS hA ha hn hN hbytes hcells hslots hdg (fun q cA H1 hK1 hP1 hD1 hS1 => ?_)
  have h1 := (hK1.2 tys.length (cA, ty) (by simp)).2
  have h2 := (hK.2 t0 (cy, ty) ht).2
  have e : cA = cy := hu _ _ h1 h2
  subst e
  exact kk q H1 hP1 hD1 hS1
end GW
theorem gu_int {s : State} {c1 c2 : ClassId} (h1 : va_RA s c1 .int) (h2 : va_RA s c2 .int) : c1 = c2 := Option.some.inj ((va_nm_int h1).symm.trans (va_nm_int h2))
theorem gu_long {s : State} {c1 c2 : ClassId} (h1 : va_RA s c1 .long) (h2 : va_RA s c2 .long) : c1 = c2 := Option.some.inj ((va_nm_long h1).symm.trans (va_nm_long h2))
theorem gu_byte {s : State} {c1 c2 : ClassId} (h1 : va_RA s c1 .byte) (h2 : va_RA s c2 .byte) : c1 = c2 := Option.some.inj ((va_nm_byte h1).symm.trans (va_nm_byte h2))
theorem gu_bool {s : State} {c1 c2 : ClassId} (h1 : va_RA s c1 .boolean) (h2 : va_RA s c2 .boolean) : c1 = c2 := Option.some.inj ((va_nm_boolean h1).symm.trans (va_nm_boolean h2))
end
section
theorem vinC {i : Int32} {n : Nat} (h : (decide (i < 0) || decide (n ≤ i.toNatClampNeg)) = false) : vp_in i n := by
  intro q
  rcases q with q | q
  · simp [q] at h
  · simp [q] at h
theorem gFputU {f : Nat → Int32} {L L' : List (Nat × Int32)} (h : gF f L) (k : Nat) (v : Int32) (hl : (k, v) :: L.filter (fun q => !(q.1 == k)) = L') : gF (upd f k v) L' := by
  rw [← hl]
  refine List.forall_mem_cons.mpr ⟨pk_us, fun q hq => ?_⟩
  obtain ⟨h1, h2⟩ := List.mem_filter.mp hq
  have h3 : q.1 ≠ k := by simpa using h2
  rw [pk_un h3]
  exact h q h1
section GA
variable {p : Program} {l : Launch} {e : Env} {R : Room} {s : State} {m : MethodId} {args : Array Value} {below : List Frame} {meth : Method} {c : Code} {H : Heap} {locs : List Loc} {cells slots : Nat} {Q : State → Prop}
variable {cc : ByteArray} {pc : Nat} {ls : Array Slot} {rest : List Value} {D : va_G} {A : Nat → Prop} {a : Nat} {tys : List (ClassId × FieldType)} {ws : va_W} {H0 : Heap} {cA : ClassId} {n : Nat}
theorem gald {f : Nat → Int32} {L : List (Nat × Int32)} (hx : p.tables.exec = Jvm.exec) (hb : c.code = cc) (hK : va_K D cls tys s) (hP : va_P D cls ws H) (q0 t0 : Nat) (ha : ws[q0]? = some (a, .inl (cA, n, .inl f))) (ht : tys[t0]? = some (cA, .int)) (hF : gF f L) (i : Nat) {k : Nat} {x : Int32} (hi : L[i]? = some (k, x)) {ix : Int32} (hix : ix.toNatClampNeg = k) (hin : vp_in ix n) (hdg : decode cc pc = .ok (.iaload, 1))
    (kk : W p l e R s m args below meth c H locs cells slots Q (F0 m (pc + 1) ls (.int x :: rest))) : W p l e R s m args below meth c H locs cells slots Q (F0 m pc ls (.int ix :: .ref a :: rest)) :=
  va_iald hx hb hK hP q0 t0 ha ht hin hdg (by rw [hix, hF.at i hi]; exact kk)
theorem galdX {f : Nat → Int32} (hx : p.tables.exec = Jvm.exec) (hb : c.code = cc) (hK : va_K D cls tys s) (hP : va_P D cls ws H) (q0 t0 : Nat) (ha : ws[q0]? = some (a, .inl (cA, n, .inl f))) (ht : tys[t0]? = some (cA, .int)) {ix : Int32} (hin : vp_in ix n) (hdg : decode cc pc = .ok (.iaload, 1))
    (kk : ∀ y : Int32, W p l e R s m args below meth c H locs cells slots Q (F0 m (pc + 1) ls (.int y :: rest))) : W p l e R s m args below meth c H locs cells slots Q (F0 m pc ls (.int ix :: .ref a :: rest)) :=
  va_iald hx hb hK hP q0 t0 ha ht hin hdg (kk _)
theorem gbaldX {f : Nat → Int32} (hx : p.tables.exec = Jvm.exec) (hb : c.code = cc) (hK : va_K D cls tys s) (hP : va_P D cls ws H) (q0 t0 : Nat) (ha : ws[q0]? = some (a, .inl (cA, n, .inl f))) (ht : tys[t0]? = some (cA, .byte)) {ix : Int32} (hin : vp_in ix n) (hdg : decode cc pc = .ok (.baload, 1))
    (kk : ∀ y : Int32, W p l e R s m args below meth c H locs cells slots Q (F0 m (pc + 1) ls (.int y :: rest))) : W p l e R s m args below meth c H locs cells slots Q (F0 m pc ls (.int ix :: .ref a :: rest)) :=
  va_bald hx hb hK hP q0 t0 ha ht hin hdg (kk _)
theorem glaldX {f : Nat → Int64} (hx : p.tables.exec = Jvm.exec) (hb : c.code = cc) (hK : va_K D cls tys s) (hP : va_P D cls ws H) (q0 t0 : Nat) (ha : ws[q0]? = some (a, .inl (cA, n, .inr (.inl f)))) (ht : tys[t0]? = some (cA, .long)) {ix : Int32} (hin : vp_in ix n) (hdg : decode cc pc = .ok (.laload, 1))
    (kk : ∀ y : Int64, W p l e R s m args below meth c H locs cells slots Q (F0 m (pc + 1) ls (.long y :: rest))) : W p l e R s m args below meth c H locs cells slots Q (F0 m pc ls (.int ix :: .ref a :: rest)) :=
  va_lald hx hb hK hP q0 t0 ha ht hin hdg (kk _)
theorem gaald {f : Nat → Option Nat} {L : List (Nat × Option Nat)} {C : String} (hx : p.tables.exec = Jvm.exec) (hb : c.code = cc) (hK : va_K D cls tys s) (hP : va_P D cls ws H) (q0 t0 : Nat) (ha : ws[q0]? = some (a, .inl (cA, n, .inr (.inr (.inr (.inr f)))))) (ht : tys[t0]? = some (cA, .object C)) (hF : gF f L) (i : Nat) {k : Nat} {x : Option Nat} (hi : L[i]? = some (k, x)) {ix : Int32} (hix : ix.toNatClampNeg = k) (hin : vp_in ix n) (hdg : decode cc pc = .ok (.aaload, 1))
    (kk : W p l e R s m args below meth c H locs cells slots Q (F0 m (pc + 1) ls (va_rf x :: rest))) : W p l e R s m args below meth c H locs cells slots Q (F0 m pc ls (.int ix :: .ref a :: rest)) :=
  va_aldq hx hb hK hP q0 t0 ha ht hin hdg (by rw [hix, hF.at i hi]; exact kk)
theorem gast {f : Nat → Int32} {L L' : List (Nat × Int32)} (hx : p.tables.exec = Jvm.exec) (hb : c.code = cc) (hK : va_K D cls tys s) (hP : va_P D cls ws H) (hD : va_D A ws) (hS : va_S A H0 H locs) (q0 t0 : Nat) (ha : ws[q0]? = some (a, .inl (cA, n, .inl f))) (ht : tys[t0]? = some (cA, .int)) (hF : gF f L) {ix x : Int32} {k : Nat} (hix : ix.toNatClampNeg = k) (hin : vp_in ix n) (hdg : decode cc pc = .ok (.iastore, 1)) (hL : (k, x) :: L.filter (fun q => !(q.1 == k)) = L')
    (kk : ∀ (f' : Nat → Int32) (H1 : Heap) (locs1 : List Loc), gF f' L' → va_P D cls (ws.set q0 (a, .inl (cA, n, .inl f'))) H1 → va_D A (ws.set q0 (a, .inl (cA, n, .inl f'))) → va_S A H0 H1 locs1 → W p l e R s m args below meth c H1 locs1 cells slots Q (F0 m (pc + 1) ls rest)) : W p l e R s m args below meth c H locs cells slots Q (F0 m pc ls (.int x :: .int ix :: .ref a :: rest)) :=
  va_iast hx hb hK hP hD hS q0 t0 ha ht hin hdg (fun H1 locs1 h1 h2 h3 => kk _ H1 locs1 (by rw [hix]; exact gFputU hF k x hL) h1 h2 h3)
theorem gastX {f : Nat → Int32} (hx : p.tables.exec = Jvm.exec) (hb : c.code = cc) (hK : va_K D cls tys s) (hP : va_P D cls ws H) (hD : va_D A ws) (hS : va_S A H0 H locs) (q0 t0 : Nat) (ha : ws[q0]? = some (a, .inl (cA, n, .inl f))) (ht : tys[t0]? = some (cA, .int)) {ix x : Int32} (hin : vp_in ix n) (hdg : decode cc pc = .ok (.iastore, 1))
    (kk : ∀ (f' : Nat → Int32) (H1 : Heap) (locs1 : List Loc), va_P D cls (ws.set q0 (a, .inl (cA, n, .inl f'))) H1 → va_D A (ws.set q0 (a, .inl (cA, n, .inl f'))) → va_S A H0 H1 locs1 → W p l e R s m args below meth c H1 locs1 cells slots Q (F0 m (pc + 1) ls rest)) : W p l e R s m args below meth c H locs cells slots Q (F0 m pc ls (.int x :: .int ix :: .ref a :: rest)) :=
  va_iast hx hb hK hP hD hS q0 t0 ha ht hin hdg (fun H1 locs1 h1 h2 h3 => kk _ H1 locs1 h1 h2 h3)
theorem gbastX {f : Nat → Int32} (hx : p.tables.exec = Jvm.exec) (hb : c.code = cc) (hK : va_K D cls tys s) (hP : va_P D cls ws H) (hD : va_D A ws) (hS : va_S A H0 H locs) (q0 t0 : Nat) (ha : ws[q0]? = some (a, .inl (cA, n, .inl f))) (ht : tys[t0]? = some (cA, .byte)) {ix x : Int32} (hin : vp_in ix n) (hdg : decode cc pc = .ok (.bastore, 1))
    (kk : ∀ (f' : Nat → Int32) (H1 : Heap) (locs1 : List Loc), va_P D cls (ws.set q0 (a, .inl (cA, n, .inl f'))) H1 → va_D A (ws.set q0 (a, .inl (cA, n, .inl f'))) → va_S A H0 H1 locs1 → W p l e R s m args below meth c H1 locs1 cells slots Q (F0 m (pc + 1) ls rest)) : W p l e R s m args below meth c H locs cells slots Q (F0 m pc ls (.int x :: .int ix :: .ref a :: rest)) :=
  va_bast hx hb hK hP hD hS q0 t0 ha ht hin hdg (fun H1 locs1 h1 h2 h3 => kk _ H1 locs1 h1 h2 h3)
theorem glastX {f : Nat → Int64} (hx : p.tables.exec = Jvm.exec) (hb : c.code = cc) (hK : va_K D cls tys s) (hP : va_P D cls ws H) (hD : va_D A ws) (hS : va_S A H0 H locs) (q0 t0 : Nat) (ha : ws[q0]? = some (a, .inl (cA, n, .inr (.inl f)))) (ht : tys[t0]? = some (cA, .long)) {ix : Int32} {x : Int64} (hin : vp_in ix n) (hdg : decode cc pc = .ok (.lastore, 1))
    (kk : ∀ (f' : Nat → Int64) (H1 : Heap) (locs1 : List Loc), va_P D cls (ws.set q0 (a, .inl (cA, n, .inr (.inl f')))) H1 → va_D A (ws.set q0 (a, .inl (cA, n, .inr (.inl f')))) → va_S A H0 H1 locs1 → W p l e R s m args below meth c H1 locs1 cells slots Q (F0 m (pc + 1) ls rest)) : W p l e R s m args below meth c H locs cells slots Q (F0 m pc ls (.long x :: .int ix :: .ref a :: rest)) :=
  va_last hx hb hK hP hD hS q0 t0 ha ht hin hdg (fun H1 locs1 h1 h2 h3 => kk _ H1 locs1 h1 h2 h3)
theorem gaast {f : Nat → Option Nat} {L L' : List (Nat × Option Nat)} (hx : p.tables.exec = Jvm.exec) (hb : c.code = cc) (hK : va_K D cls tys s) (hP : va_P D cls ws H) (hD : va_D A ws) (hS : va_S A H0 H locs) (q0 t0 qk ci : Nat) {r : vw_C} {v : Nat} {vs : List Value} (ha : ws[q0]? = some (a, .inl (cA, n, .inr (.inr (.inr (.inr f)))))) (ht : tys[t0]? = some (cA, .object r.1)) (hv : ws[qk]? = some (v, .inr (ci, vs))) (hc : cls[ci]? = some r) (hF : gF f L) {ix : Int32} {k : Nat} (hix : ix.toNatClampNeg = k) (hin : vp_in ix n) (hdg : decode cc pc = .ok (.aastore, 1)) (hL : (k, some v) :: L.filter (fun q => !(q.1 == k)) = L')
    (kk : ∀ (f' : Nat → Option Nat) (H1 : Heap) (locs1 : List Loc), gF f' L' → va_P D cls (ws.set q0 (a, .inl (cA, n, .inr (.inr (.inr (.inr f')))))) H1 → va_D A (ws.set q0 (a, .inl (cA, n, .inr (.inr (.inr (.inr f')))))) → va_S A H0 H1 locs1 → W p l e R s m args below meth c H1 locs1 cells slots Q (F0 m (pc + 1) ls rest)) : W p l e R s m args below meth c H locs cells slots Q (F0 m pc ls (.ref v :: .int ix :: .ref a :: rest)) :=
  va_astq hx hb hK hP hD hS q0 t0 qk ci ha ht hv hc hin hdg (fun H1 locs1 h1 h2 h3 => kk _ H1 locs1 (by rw [hix]; exact hF.put k (some v) hL) h1 h2 h3)
theorem gnewq {own C : String} {index : Nat} (hx : p.tables.exec = Jvm.exec) (hb : c.code = cc) (hts : ∀ w ∈ wAll, w.before args s = true) (hown : s.vm.findClass own = some m.cls) (hcl : Cond.classLink own index C ∈ wAll) (hover : va_AO C s) (hK : va_K D cls tys s) (t0 : Nat) {cy : ClassId} (ht : tys[t0]? = some (cy, .object C)) (hP : va_P D cls ws H) (hD : va_D A ws) (hS : va_S A H0 H locs) (hA : ∀ q, H0.size ≤ q → A q) {n : Int32} {N' : Nat} (hn : ¬ n < 0) (hN : n.toNatClampNeg = N') (hbytes : N' * 4 ≤ 536870912) (hcells : cells + 1 ≤ R.cells) (hslots : slots + N' ≤ R.slots) (hdg : decode cc pc = .ok (.anewarray index, 3))
    (kk : ∀ (q : Nat) (H1 : Heap), va_P D cls (ws ++ [(q, .inl (cy, N', .inr (.inr (.inr (.inr (fun _ => none))))))]) H1 → va_D A (ws ++ [(q, .inl (cy, N', .inr (.inr (.inr (.inr (fun _ => none))))))]) → va_S A H0 H1 locs → W p l e R s m args below meth c H1 locs (cells + 1) (slots + N') Q (F0 m (pc + 3) ls (.ref q :: rest))) : W p l e R s m args below meth c H locs cells slots Q (F0 m pc ls (.int n :: rest)) := by
  refine va_newq hx hb hown (hts _ hcl) hover hK hP hD hS hA hn hN hbytes hcells hslots hdg (fun q cA H1 hK1 hP1 hD1 hS1 => ?_)
  obtain ⟨-, -, -, -, -, h1⟩ := (hK1.2 tys.length (cA, .object C) (by simp)).2
  obtain ⟨-, -, -, -, -, h2⟩ := (hK.2 t0 (cy, .object C) ht).2
  have e : cA = cy := Option.some.inj (h1.symm.trans h2)
  subst e
  exact kk q H1 hP1 hD1 hS1
/-- the world without some of its cells -/
theorem gputX {own C : String} {T : u_T} {N ci index : Nat} {f : Nat → Value} {L : List (Nat × Value)} (hx : p.tables.exec = Jvm.exec) (hb : c.code = cc) (hts : ∀ w ∈ wAll, w.before args s = true) (hin : ∀ w ∈ u_ws C T N, w ∈ wAll) (ty0 : Nat → FieldType) (hty : ∀ k, k < N → parseFieldDescriptor (T k).2.2.1 = some (ty0 k)) (hnm : ∀ a, a < N → ∀ b, b < N → a ≠ b → (T a).2.1 ≠ (T b).2.1) (hown : s.vm.findClass own = some m.cls) (hK : va_K D cls tys s) (hP : va_P D cls ws H) (hD : va_D A ws) (hS : va_S A H0 H locs) (q0 : Nat) (he : ws[q0]? = some (a, .inr (ci, rg N f))) (hc : cls[ci]? = some (C, T, N)) (hF : gF f L) (k : Nat) (hk : k < N)
    (hlink : Cond.fieldLink own index (T k).1 (T k).2.1 (T k).2.2.1 ∈ wAll) (hfin : (T k).2.2.2 = false) {v : Value} (hn : narrow (ty0 k) v = v) (hfit : fits (ty0 k) v = true) (hdg : decode cc pc = .ok (.putfield index, 3)) {L' : List (Nat × Value)} (hL : L.filter (fun q => !(q.1 == k)) = L')
    (kk : ∀ (f' : Nat → Value) (H1 : Heap) (locs1 : List Loc), gF f' L' → gM f f' [k] → va_P D cls (ws.set q0 (a, .inr (ci, rg N f'))) H1 → va_D A (ws.set q0 (a, .inr (ci, rg N f'))) → va_S A H0 H1 locs1 → W p l e R s m args below meth c H1 locs1 cells slots Q (F0 m (pc + 3) ls rest)) : W p l e R s m args below meth c H locs cells slots Q (F0 m pc ls (v :: .ref a :: rest)) :=
  gput hx hb hts hin ty0 hty hnm hown hK hP hD hS q0 he hc hF k hk hlink hfin hn hfit hdg rfl (fun f' H1 l1 h1 h2 h3 h4 h5 => kk f' H1 l1 (by rw [← hL]; exact fun q hq => h1 q (List.mem_cons_of_mem _ hq)) h2 h3 h4 h5)
theorem gputFX {own C : String} {T : u_T} {N ci index : Nat} {f : Nat → Value} {L : List (Nat × Value)} (hx : p.tables.exec = Jvm.exec) (hb : c.code = cc) (hts : ∀ w ∈ wAll, w.before args s = true) (hin : ∀ w ∈ u_ws C T N, w ∈ wAll) (ty0 : Nat → FieldType) (hty : ∀ k, k < N → parseFieldDescriptor (T k).2.2.1 = some (ty0 k)) (hnm : ∀ a, a < N → ∀ b, b < N → a ≠ b → (T a).2.1 ≠ (T b).2.1) (hown : s.vm.findClass own = some m.cls) (hK : va_K D cls tys s) (hP : va_P D cls ws H) (hD : va_D A ws) (hS : va_S A H0 H locs) (q0 : Nat) (he : ws[q0]? = some (a, .inr (ci, rg N f))) (hc : cls[ci]? = some (C, T, N)) (hF : gF f L) (k : Nat) (hk : k < N)
    (hlink : Cond.fieldLink own index (T k).1 (T k).2.1 (T k).2.2.1 ∈ wAll) (hfin : (T k).2.2.2 = true) (hin2 : meth.name = "<init>") (hdecl : (T k).1 = own) {v : Value} (hn : narrow (ty0 k) v = v) (hfit : fits (ty0 k) v = true) (hdg : decode cc pc = .ok (.putfield index, 3)) {L' : List (Nat × Value)} (hL : L.filter (fun q => !(q.1 == k)) = L')
    (kk : ∀ (f' : Nat → Value) (H1 : Heap) (locs1 : List Loc), gF f' L' → gM f f' [k] → va_P D cls (ws.set q0 (a, .inr (ci, rg N f'))) H1 → va_D A (ws.set q0 (a, .inr (ci, rg N f'))) → va_S A H0 H1 locs1 → W p l e R s m args below meth c H1 locs1 cells slots Q (F0 m (pc + 3) ls rest)) : W p l e R s m args below meth c H locs cells slots Q (F0 m pc ls (v :: .ref a :: rest)) :=
  gputF hx hb hts hin ty0 hty hnm hown hK hP hD hS q0 he hc hF k hk hlink hfin hin2 hdecl hn hfit hdg rfl (fun f' H1 l1 h1 h2 h3 h4 h5 => kk f' H1 l1 (by rw [← hL]; exact fun q hq => h1 q (List.mem_cons_of_mem _ hq)) h2 h3 h4 h5)
end GA
end
section
theorem vin2 {x M : Int32} {n : Nat} (hM : M.toInt = n) (a : ¬ x < 0) (b : ¬ M ≤ x) : vp_in x n := by
  rw [vp_in_iff]
  have h1 := Int32.le_iff_toInt_le.mp (Int32.not_lt.mp a)
  have h2 := Int32.lt_iff_toInt_lt.mp (Int32.not_le.mp b)
  have h3 : (0 : Int32).toInt = 0 := by decide
  omega
theorem vgt {x : Int32} (c : ¬ 1 < x) : ¬ 2 ≤ x := by
  intro h
  apply c
  have h1 := Int32.le_iff_toInt_le.mp h
  rw [Int32.lt_iff_toInt_lt]
  have h2 : (2 : Int32).toInt = 2 := by decide
  have h3 : (1 : Int32).toInt = 1 := by decide
  omega
theorem v2 {x : Int32} (h : vp_in x 2) : x.toNatClampNeg = 0 ∨ x.toNatClampNeg = 1 := by
  have h1 : ¬ 2 ≤ x.toNatClampNeg := fun q => h (Or.inr q)
  omega
end
section
theorem k_1_29 : (Jvm.Cond.methodLink "StaveHouse" (1 : Nat) ({ cls := "java/lang/Object", name := "<init>", desc := "()V" } : Jvm.MethodName)) ∈ wAll := wA_1 (j := 29) rfl rfl
theorem k_1_30 : (Jvm.Cond.instanceMethod ({ cls := "java/lang/Object", name := "<init>", desc := "()V" } : Jvm.MethodName)) ∈ wAll := wA_1 (j := 30) rfl rfl
theorem k_1_31 : (Jvm.Cond.code ({ cls := "java/lang/Object", name := "<init>", desc := "()V" } : Jvm.MethodName) object_method_1_code (1 : Nat) (Option.none : Option Jvm.ClassFile.FieldType)) ∈ wAll := wA_1 (j := 31) rfl rfl
theorem k_1_32 : (Jvm.Cond.classLink "StaveHouse" (7 : Nat) "StaveHouse$ByteRow") ∈ wAll := wA_1 (j := 32) rfl rfl
theorem k_1_33 : (Jvm.Cond.instantiable "StaveHouse$ByteRow" (3 : Nat)) ∈ wAll := wA_1 (j := 33) rfl rfl
theorem k_1_2 : (Jvm.Cond.initialized "StaveHouse$ByteRow") ∈ wAll := wA_1 (j := 2) rfl rfl
theorem k_1_37 : (Jvm.Cond.methodLink "StaveHouse$ByteRow" (3 : Nat) ({ cls := "java/lang/Object", name := "<init>", desc := "()V" } : Jvm.MethodName)) ∈ wAll := wA_1 (j := 37) rfl rfl
theorem k_1_38 : (Jvm.Cond.methodLink "StaveHouse$ByteRow" (9 : Nat) ({ cls := "java/lang/Math", name := "max", desc := "(II)I" } : Jvm.MethodName)) ∈ wAll := wA_1 (j := 38) rfl rfl
theorem k_1_39 : (Jvm.Cond.static ({ cls := "java/lang/Math", name := "max", desc := "(II)I" } : Jvm.MethodName)) ∈ wAll := wA_1 (j := 39) rfl rfl
theorem k_1_3 : (Jvm.Cond.initialized "java/lang/Math") ∈ wAll := wA_1 (j := 3) rfl rfl
theorem k_1_40 : (Jvm.Cond.code ({ cls := "java/lang/Math", name := "max", desc := "(II)I" } : Jvm.MethodName) prog_20_method_65_code (2 : Nat) (Option.some Jvm.ClassFile.FieldType.int)) ∈ wAll := wA_1 (j := 40) rfl rfl
theorem k_1_57 : (Jvm.Cond.arrayClass Jvm.ClassFile.FieldType.int) ∈ wAll := wA_1 (j := 57) rfl rfl
theorem k_1_41 : (Jvm.Cond.fieldLink "StaveHouse$ByteRow" (15 : Nat) "StaveHouse$ByteRow" "bytes" "[I") ∈ wAll := wA_1 (j := 41) rfl rfl
theorem k_1_36 : (Jvm.Cond.code ({ cls := "StaveHouse$ByteRow", name := "<init>", desc := "(I)V" } : Jvm.MethodName) prog_2_method_1_code (2 : Nat) (Option.none : Option Jvm.ClassFile.FieldType)) ∈ wAll := wA_1 (j := 36) rfl rfl
theorem k_1_34 : (Jvm.Cond.methodLink "StaveHouse" (11 : Nat) ({ cls := "StaveHouse$ByteRow", name := "<init>", desc := "(I)V" } : Jvm.MethodName)) ∈ wAll := wA_1 (j := 34) rfl rfl
theorem k_1_35 : (Jvm.Cond.instanceMethod ({ cls := "StaveHouse$ByteRow", name := "<init>", desc := "(I)V" } : Jvm.MethodName)) ∈ wAll := wA_1 (j := 35) rfl rfl
theorem k_2_127 : (Jvm.Cond.fieldLink "StaveHouse" (14 : Nat) "StaveHouse" "tape" "LStaveHouse$ByteRow;") ∈ wAll := wA_2 (j := 127) rfl rfl
theorem k_2_128 : (Jvm.Cond.fieldLink "StaveHouse" (18 : Nat) "StaveHouse" "waiting" "[I") ∈ wAll := wA_2 (j := 128) rfl rfl
theorem k_2_129 : (Jvm.Cond.fieldLink "StaveHouse" (22 : Nat) "StaveHouse" "written" "LStaveHouse$ByteRow;") ∈ wAll := wA_2 (j := 129) rfl rfl
theorem k_1_58 : (Jvm.Cond.classLink "StaveHouse" (25 : Nat) "StaveHouse$Piece") ∈ wAll := wA_1 (j := 58) rfl rfl
theorem k_2_130 : (Jvm.Cond.fieldLink "StaveHouse" (27 : Nat) "StaveHouse" "pieces" "[LStaveHouse$Piece;") ∈ wAll := wA_2 (j := 130) rfl rfl
theorem k_1_60 : (Jvm.Cond.classLink "StaveHouse" (31 : Nat) "StaveHouse$Parser") ∈ wAll := wA_1 (j := 60) rfl rfl
theorem k_1_61 : (Jvm.Cond.instantiable "StaveHouse$Parser" (22 : Nat)) ∈ wAll := wA_1 (j := 61) rfl rfl
theorem k_1_4 : (Jvm.Cond.initialized "StaveHouse$Parser") ∈ wAll := wA_1 (j := 4) rfl rfl
theorem k_1_65 : (Jvm.Cond.methodLink "StaveHouse$Parser" (3 : Nat) ({ cls := "java/lang/Object", name := "<init>", desc := "()V" } : Jvm.MethodName)) ∈ wAll := wA_1 (j := 65) rfl rfl
theorem k_1_106 : (Jvm.Cond.fieldLink "StaveHouse$Parser" (9 : Nat) "StaveHouse$Parser" "kind" "[I") ∈ wAll := wA_1 (j := 106) rfl rfl
theorem k_1_108 : (Jvm.Cond.fieldLink "StaveHouse$Parser" (15 : Nat) "StaveHouse$Parser" "place" "[I") ∈ wAll := wA_1 (j := 108) rfl rfl
theorem k_1_110 : (Jvm.Cond.fieldLink "StaveHouse$Parser" (18 : Nat) "StaveHouse$Parser" "first" "[I") ∈ wAll := wA_1 (j := 110) rfl rfl
theorem k_1_112 : (Jvm.Cond.fieldLink "StaveHouse$Parser" (21 : Nat) "StaveHouse$Parser" "second" "[I") ∈ wAll := wA_1 (j := 112) rfl rfl
theorem k_1_114 : (Jvm.Cond.fieldLink "StaveHouse$Parser" (24 : Nat) "StaveHouse$Parser" "child" "[I") ∈ wAll := wA_1 (j := 114) rfl rfl
theorem k_1_116 : (Jvm.Cond.fieldLink "StaveHouse$Parser" (27 : Nat) "StaveHouse$Parser" "next" "[I") ∈ wAll := wA_1 (j := 116) rfl rfl
theorem k_1_118 : (Jvm.Cond.fieldLink "StaveHouse$Parser" (30 : Nat) "StaveHouse$Parser" "count" "[I") ∈ wAll := wA_1 (j := 118) rfl rfl
theorem k_1_120 : (Jvm.Cond.fieldLink "StaveHouse$Parser" (33 : Nat) "StaveHouse$Parser" "marks" "[I") ∈ wAll := wA_1 (j := 120) rfl rfl
theorem k_1_122 : (Jvm.Cond.fieldLink "StaveHouse$Parser" (36 : Nat) "StaveHouse$Parser" "pitchSteps" "[I") ∈ wAll := wA_1 (j := 122) rfl rfl
theorem k_1_124 : (Jvm.Cond.fieldLink "StaveHouse$Parser" (39 : Nat) "StaveHouse$Parser" "pitchAlterations" "[I") ∈ wAll := wA_1 (j := 124) rfl rfl
theorem k_1_126 : (Jvm.Cond.fieldLink "StaveHouse$Parser" (42 : Nat) "StaveHouse$Parser" "pitchPlaces" "[I") ∈ wAll := wA_1 (j := 126) rfl rfl
theorem k_1_66 : (Jvm.Cond.classLink "StaveHouse$Parser" (45 : Nat) "StaveHouse$Tokens") ∈ wAll := wA_1 (j := 66) rfl rfl
theorem k_1_67 : (Jvm.Cond.instantiable "StaveHouse$Tokens" (9 : Nat)) ∈ wAll := wA_1 (j := 67) rfl rfl
theorem k_1_5 : (Jvm.Cond.initialized "StaveHouse$Tokens") ∈ wAll := wA_1 (j := 5) rfl rfl
theorem k_1_71 : (Jvm.Cond.methodLink "StaveHouse$Tokens" (3 : Nat) ({ cls := "java/lang/Object", name := "<init>", desc := "()V" } : Jvm.MethodName)) ∈ wAll := wA_1 (j := 71) rfl rfl
theorem k_1_82 : (Jvm.Cond.fieldLink "StaveHouse$Tokens" (9 : Nat) "StaveHouse$Tokens" "kinds" "[I") ∈ wAll := wA_1 (j := 82) rfl rfl
theorem k_1_83 : (Jvm.Cond.fieldLink "StaveHouse$Tokens" (15 : Nat) "StaveHouse$Tokens" "places" "[I") ∈ wAll := wA_1 (j := 83) rfl rfl
theorem k_1_105 : (Jvm.Cond.arrayClass Jvm.ClassFile.FieldType.long) ∈ wAll := wA_1 (j := 105) rfl rfl
theorem k_1_84 : (Jvm.Cond.fieldLink "StaveHouse$Tokens" (18 : Nat) "StaveHouse$Tokens" "values" "[J") ∈ wAll := wA_1 (j := 84) rfl rfl
theorem k_1_70 : (Jvm.Cond.code ({ cls := "StaveHouse$Tokens", name := "<init>", desc := "()V" } : Jvm.MethodName) prog_12_method_1_code (1 : Nat) (Option.none : Option Jvm.ClassFile.FieldType)) ∈ wAll := wA_1 (j := 70) rfl rfl
theorem k_1_69 : (Jvm.Cond.instanceMethod ({ cls := "StaveHouse$Tokens", name := "<init>", desc := "()V" } : Jvm.MethodName)) ∈ wAll := wA_1 (j := 69) rfl rfl
theorem k_1_128 : (Jvm.Cond.fieldLink "StaveHouse$Parser" (48 : Nat) "StaveHouse$Parser" "token" "LStaveHouse$Tokens;") ∈ wAll := wA_1 (j := 128) rfl rfl
theorem k_1_129 : (Jvm.Cond.fieldLink "StaveHouse$Parser" (52 : Nat) "StaveHouse$Parser" "letNames" "[J") ∈ wAll := wA_1 (j := 129) rfl rfl
theorem k_1_130 : (Jvm.Cond.fieldLink "StaveHouse$Parser" (56 : Nat) "StaveHouse$Parser" "letItems" "[I") ∈ wAll := wA_1 (j := 130) rfl rfl
theorem k_1_64 : (Jvm.Cond.code ({ cls := "StaveHouse$Parser", name := "<init>", desc := "()V" } : Jvm.MethodName) prog_5_method_1_code (1 : Nat) (Option.none : Option Jvm.ClassFile.FieldType)) ∈ wAll := wA_1 (j := 64) rfl rfl
theorem k_1_63 : (Jvm.Cond.instanceMethod ({ cls := "StaveHouse$Parser", name := "<init>", desc := "()V" } : Jvm.MethodName)) ∈ wAll := wA_1 (j := 63) rfl rfl
theorem k_2_131 : (Jvm.Cond.fieldLink "StaveHouse" (34 : Nat) "StaveHouse" "parser" "LStaveHouse$Parser;") ∈ wAll := wA_2 (j := 131) rfl rfl
theorem k_1_184 : (Jvm.Cond.classLink "StaveHouse" (38 : Nat) "StaveHouse$Walker") ∈ wAll := wA_1 (j := 184) rfl rfl
theorem k_1_185 : (Jvm.Cond.instantiable "StaveHouse$Walker" (19 : Nat)) ∈ wAll := wA_1 (j := 185) rfl rfl
theorem k_1_6 : (Jvm.Cond.initialized "StaveHouse$Walker") ∈ wAll := wA_1 (j := 6) rfl rfl
theorem k_1_189 : (Jvm.Cond.methodLink "StaveHouse$Walker" (3 : Nat) ({ cls := "java/lang/Object", name := "<init>", desc := "()V" } : Jvm.MethodName)) ∈ wAll := wA_1 (j := 189) rfl rfl
theorem k_1_204 : (Jvm.Cond.fieldLink "StaveHouse$Walker" (9 : Nat) "StaveHouse$Walker" "powers" "[I") ∈ wAll := wA_1 (j := 204) rfl rfl
theorem k_1_205 : (Jvm.Cond.fieldLink "StaveHouse$Walker" (15 : Nat) "StaveHouse$Walker" "carrySigns" "[I") ∈ wAll := wA_1 (j := 205) rfl rfl
theorem k_1_206 : (Jvm.Cond.fieldLink "StaveHouse$Walker" (18 : Nat) "StaveHouse$Walker" "carrySteps" "[I") ∈ wAll := wA_1 (j := 206) rfl rfl
theorem k_1_207 : (Jvm.Cond.fieldLink "StaveHouse$Walker" (21 : Nat) "StaveHouse$Walker" "carryTones" "[I") ∈ wAll := wA_1 (j := 207) rfl rfl
theorem k_1_188 : (Jvm.Cond.code ({ cls := "StaveHouse$Walker", name := "<init>", desc := "()V" } : Jvm.MethodName) prog_13_method_1_code (1 : Nat) (Option.none : Option Jvm.ClassFile.FieldType)) ∈ wAll := wA_1 (j := 188) rfl rfl
theorem k_1_187 : (Jvm.Cond.instanceMethod ({ cls := "StaveHouse$Walker", name := "<init>", desc := "()V" } : Jvm.MethodName)) ∈ wAll := wA_1 (j := 187) rfl rfl
theorem k_2_132 : (Jvm.Cond.fieldLink "StaveHouse" (41 : Nat) "StaveHouse" "walker" "LStaveHouse$Walker;") ∈ wAll := wA_2 (j := 132) rfl rfl
theorem k_2_8 : (Jvm.Cond.classLink "StaveHouse" (45 : Nat) "StaveHouse$Scribe") ∈ wAll := wA_2 (j := 8) rfl rfl
theorem k_2_9 : (Jvm.Cond.instantiable "StaveHouse$Scribe" (9 : Nat)) ∈ wAll := wA_2 (j := 9) rfl rfl
theorem k_1_7 : (Jvm.Cond.initialized "StaveHouse$Scribe") ∈ wAll := wA_1 (j := 7) rfl rfl
theorem k_2_13 : (Jvm.Cond.methodLink "StaveHouse$Scribe" (3 : Nat) ({ cls := "java/lang/Object", name := "<init>", desc := "()V" } : Jvm.MethodName)) ∈ wAll := wA_2 (j := 13) rfl rfl
theorem k_2_14 : (Jvm.Cond.classLink "StaveHouse$Scribe" (9 : Nat) "StaveHouse$Event") ∈ wAll := wA_2 (j := 14) rfl rfl
theorem k_2_15 : (Jvm.Cond.instantiable "StaveHouse$Event" (14 : Nat)) ∈ wAll := wA_2 (j := 15) rfl rfl
theorem k_1_8 : (Jvm.Cond.initialized "StaveHouse$Event") ∈ wAll := wA_1 (j := 8) rfl rfl
theorem k_2_19 : (Jvm.Cond.methodLink "StaveHouse$Event" (3 : Nat) ({ cls := "java/lang/Object", name := "<init>", desc := "()V" } : Jvm.MethodName)) ∈ wAll := wA_2 (j := 19) rfl rfl
theorem k_2_57 : (Jvm.Cond.fieldLink "StaveHouse$Event" (9 : Nat) "StaveHouse$Event" "steps" "[I") ∈ wAll := wA_2 (j := 57) rfl rfl
theorem k_2_63 : (Jvm.Cond.fieldLink "StaveHouse$Event" (15 : Nat) "StaveHouse$Event" "alterations" "[I") ∈ wAll := wA_2 (j := 63) rfl rfl
theorem k_2_18 : (Jvm.Cond.code ({ cls := "StaveHouse$Event", name := "<init>", desc := "()V" } : Jvm.MethodName) prog_3_method_1_code (1 : Nat) (Option.none : Option Jvm.ClassFile.FieldType)) ∈ wAll := wA_2 (j := 18) rfl rfl
theorem k_2_17 : (Jvm.Cond.instanceMethod ({ cls := "StaveHouse$Event", name := "<init>", desc := "()V" } : Jvm.MethodName)) ∈ wAll := wA_2 (j := 17) rfl rfl
theorem k_2_102 : (Jvm.Cond.fieldLink "StaveHouse$Scribe" (12 : Nat) "StaveHouse$Scribe" "event" "LStaveHouse$Event;") ∈ wAll := wA_2 (j := 102) rfl rfl
theorem k_2_126 : (Jvm.Cond.arrayClass Jvm.ClassFile.FieldType.boolean) ∈ wAll := wA_2 (j := 126) rfl rfl
theorem k_2_106 : (Jvm.Cond.fieldLink "StaveHouse$Scribe" (18 : Nat) "StaveHouse$Scribe" "hasTone" "[Z") ∈ wAll := wA_2 (j := 106) rfl rfl
theorem k_2_12 : (Jvm.Cond.code ({ cls := "StaveHouse$Scribe", name := "<init>", desc := "()V" } : Jvm.MethodName) prog_9_method_1_code (1 : Nat) (Option.none : Option Jvm.ClassFile.FieldType)) ∈ wAll := wA_2 (j := 12) rfl rfl
theorem k_2_11 : (Jvm.Cond.instanceMethod ({ cls := "StaveHouse$Scribe", name := "<init>", desc := "()V" } : Jvm.MethodName)) ∈ wAll := wA_2 (j := 11) rfl rfl
theorem k_2_133 : (Jvm.Cond.fieldLink "StaveHouse" (48 : Nat) "StaveHouse" "scribe" "LStaveHouse$Scribe;") ∈ wAll := wA_2 (j := 133) rfl rfl
theorem k_1_50 : (Jvm.Cond.laysFinal "StaveHouse$ByteRow" "StaveHouse$ByteRow" "bytes" "[I") ∈ wAll := wA_1 (j := 50) rfl rfl
theorem k_1_52 : (Jvm.Cond.lays "StaveHouse$ByteRow" "StaveHouse$ByteRow" "size" "I") ∈ wAll := wA_1 (j := 52) rfl rfl
theorem k_1_54 : (Jvm.Cond.lays "StaveHouse$ByteRow" "StaveHouse$ByteRow" "full" "Z") ∈ wAll := wA_1 (j := 54) rfl rfl
theorem k_2_69 : (Jvm.Cond.lays "StaveHouse$Event" "StaveHouse$Event" "place" "J") ∈ wAll := wA_2 (j := 69) rfl rfl
theorem k_2_71 : (Jvm.Cond.lays "StaveHouse$Event" "StaveHouse$Event" "length" "J") ∈ wAll := wA_2 (j := 71) rfl rfl
theorem k_2_73 : (Jvm.Cond.lays "StaveHouse$Event" "StaveHouse$Event" "value" "I") ∈ wAll := wA_2 (j := 73) rfl rfl
theorem k_2_75 : (Jvm.Cond.lays "StaveHouse$Event" "StaveHouse$Event" "tupletFirst" "I") ∈ wAll := wA_2 (j := 75) rfl rfl
theorem k_2_77 : (Jvm.Cond.lays "StaveHouse$Event" "StaveHouse$Event" "tupletSecond" "I") ∈ wAll := wA_2 (j := 77) rfl rfl
theorem k_2_79 : (Jvm.Cond.lays "StaveHouse$Event" "StaveHouse$Event" "bracket" "I") ∈ wAll := wA_2 (j := 79) rfl rfl
theorem k_2_81 : (Jvm.Cond.lays "StaveHouse$Event" "StaveHouse$Event" "bracketPlace" "I") ∈ wAll := wA_2 (j := 81) rfl rfl
theorem k_2_83 : (Jvm.Cond.lays "StaveHouse$Event" "StaveHouse$Event" "marks" "I") ∈ wAll := wA_2 (j := 83) rfl rfl
theorem k_2_85 : (Jvm.Cond.lays "StaveHouse$Event" "StaveHouse$Event" "loud" "I") ∈ wAll := wA_2 (j := 85) rfl rfl
theorem k_2_87 : (Jvm.Cond.lays "StaveHouse$Event" "StaveHouse$Event" "token" "I") ∈ wAll := wA_2 (j := 87) rfl rfl
theorem k_2_89 : (Jvm.Cond.lays "StaveHouse$Event" "StaveHouse$Event" "count" "I") ∈ wAll := wA_2 (j := 89) rfl rfl
theorem k_2_91 : (Jvm.Cond.lays "StaveHouse$Event" "StaveHouse$Event" "slurred" "Z") ∈ wAll := wA_2 (j := 91) rfl rfl
theorem k_2_93 : (Jvm.Cond.laysFinal "StaveHouse$Event" "StaveHouse$Event" "steps" "[I") ∈ wAll := wA_2 (j := 93) rfl rfl
theorem k_2_95 : (Jvm.Cond.laysFinal "StaveHouse$Event" "StaveHouse$Event" "alterations" "[I") ∈ wAll := wA_2 (j := 95) rfl rfl
theorem k_1_139 : (Jvm.Cond.laysFinal "StaveHouse$Parser" "StaveHouse$Parser" "kind" "[I") ∈ wAll := wA_1 (j := 139) rfl rfl
theorem k_1_141 : (Jvm.Cond.laysFinal "StaveHouse$Parser" "StaveHouse$Parser" "place" "[I") ∈ wAll := wA_1 (j := 141) rfl rfl
theorem k_1_143 : (Jvm.Cond.laysFinal "StaveHouse$Parser" "StaveHouse$Parser" "first" "[I") ∈ wAll := wA_1 (j := 143) rfl rfl
theorem k_1_145 : (Jvm.Cond.laysFinal "StaveHouse$Parser" "StaveHouse$Parser" "second" "[I") ∈ wAll := wA_1 (j := 145) rfl rfl
theorem k_1_147 : (Jvm.Cond.laysFinal "StaveHouse$Parser" "StaveHouse$Parser" "child" "[I") ∈ wAll := wA_1 (j := 147) rfl rfl
theorem k_1_149 : (Jvm.Cond.laysFinal "StaveHouse$Parser" "StaveHouse$Parser" "next" "[I") ∈ wAll := wA_1 (j := 149) rfl rfl
theorem k_1_151 : (Jvm.Cond.laysFinal "StaveHouse$Parser" "StaveHouse$Parser" "count" "[I") ∈ wAll := wA_1 (j := 151) rfl rfl
theorem k_1_153 : (Jvm.Cond.laysFinal "StaveHouse$Parser" "StaveHouse$Parser" "marks" "[I") ∈ wAll := wA_1 (j := 153) rfl rfl
theorem k_1_155 : (Jvm.Cond.laysFinal "StaveHouse$Parser" "StaveHouse$Parser" "pitchSteps" "[I") ∈ wAll := wA_1 (j := 155) rfl rfl
theorem k_1_157 : (Jvm.Cond.laysFinal "StaveHouse$Parser" "StaveHouse$Parser" "pitchAlterations" "[I") ∈ wAll := wA_1 (j := 157) rfl rfl
theorem k_1_159 : (Jvm.Cond.laysFinal "StaveHouse$Parser" "StaveHouse$Parser" "pitchPlaces" "[I") ∈ wAll := wA_1 (j := 159) rfl rfl
theorem k_1_161 : (Jvm.Cond.laysFinal "StaveHouse$Parser" "StaveHouse$Parser" "token" "LStaveHouse$Tokens;") ∈ wAll := wA_1 (j := 161) rfl rfl
theorem k_1_163 : (Jvm.Cond.laysFinal "StaveHouse$Parser" "StaveHouse$Parser" "letNames" "[J") ∈ wAll := wA_1 (j := 163) rfl rfl
theorem k_1_165 : (Jvm.Cond.laysFinal "StaveHouse$Parser" "StaveHouse$Parser" "letItems" "[I") ∈ wAll := wA_1 (j := 165) rfl rfl
theorem k_1_167 : (Jvm.Cond.lays "StaveHouse$Parser" "StaveHouse$Parser" "items" "I") ∈ wAll := wA_1 (j := 167) rfl rfl
theorem k_1_169 : (Jvm.Cond.lays "StaveHouse$Parser" "StaveHouse$Parser" "pitches" "I") ∈ wAll := wA_1 (j := 169) rfl rfl
theorem k_1_171 : (Jvm.Cond.lays "StaveHouse$Parser" "StaveHouse$Parser" "lets" "I") ∈ wAll := wA_1 (j := 171) rfl rfl
theorem k_1_173 : (Jvm.Cond.lays "StaveHouse$Parser" "StaveHouse$Parser" "headsTold" "I") ∈ wAll := wA_1 (j := 173) rfl rfl
theorem k_1_175 : (Jvm.Cond.lays "StaveHouse$Parser" "StaveHouse$Parser" "depth" "I") ∈ wAll := wA_1 (j := 175) rfl rfl
theorem k_1_177 : (Jvm.Cond.lays "StaveHouse$Parser" "StaveHouse$Parser" "number" "I") ∈ wAll := wA_1 (j := 177) rfl rfl
theorem k_1_179 : (Jvm.Cond.lays "StaveHouse$Parser" "StaveHouse$Parser" "length" "I") ∈ wAll := wA_1 (j := 179) rfl rfl
theorem k_1_181 : (Jvm.Cond.lays "StaveHouse$Parser" "StaveHouse$Parser" "wrong" "I") ∈ wAll := wA_1 (j := 181) rfl rfl
theorem k_2_107 : (Jvm.Cond.lays "StaveHouse$Scribe" "StaveHouse$Scribe" "source" "LStaveHouse$SoundFile;") ∈ wAll := wA_2 (j := 107) rfl rfl
theorem k_2_109 : (Jvm.Cond.lays "StaveHouse$Scribe" "StaveHouse$Scribe" "page" "LStaveHouse$ByteRow;") ∈ wAll := wA_2 (j := 109) rfl rfl
theorem k_2_111 : (Jvm.Cond.lays "StaveHouse$Scribe" "StaveHouse$Scribe" "grid" "I") ∈ wAll := wA_2 (j := 111) rfl rfl
theorem k_2_113 : (Jvm.Cond.lays "StaveHouse$Scribe" "StaveHouse$Scribe" "bar" "I") ∈ wAll := wA_2 (j := 113) rfl rfl
theorem k_2_115 : (Jvm.Cond.laysFinal "StaveHouse$Scribe" "StaveHouse$Scribe" "event" "LStaveHouse$Event;") ∈ wAll := wA_2 (j := 115) rfl rfl
theorem k_2_117 : (Jvm.Cond.lays "StaveHouse$Scribe" "StaveHouse$Scribe" "from" "J") ∈ wAll := wA_2 (j := 117) rfl rfl
theorem k_2_119 : (Jvm.Cond.lays "StaveHouse$Scribe" "StaveHouse$Scribe" "to" "J") ∈ wAll := wA_2 (j := 119) rfl rfl
theorem k_2_121 : (Jvm.Cond.lays "StaveHouse$Scribe" "StaveHouse$Scribe" "next" "I") ∈ wAll := wA_2 (j := 121) rfl rfl
theorem k_2_123 : (Jvm.Cond.laysFinal "StaveHouse$Scribe" "StaveHouse$Scribe" "hasTone" "[Z") ∈ wAll := wA_2 (j := 123) rfl rfl
theorem k_1_86 : (Jvm.Cond.lays "StaveHouse$Tokens" "StaveHouse$Tokens" "kind" "I") ∈ wAll := wA_1 (j := 86) rfl rfl
theorem k_1_88 : (Jvm.Cond.lays "StaveHouse$Tokens" "StaveHouse$Tokens" "place" "I") ∈ wAll := wA_1 (j := 88) rfl rfl
theorem k_1_90 : (Jvm.Cond.lays "StaveHouse$Tokens" "StaveHouse$Tokens" "value" "J") ∈ wAll := wA_1 (j := 90) rfl rfl
theorem k_1_92 : (Jvm.Cond.lays "StaveHouse$Tokens" "StaveHouse$Tokens" "step" "I") ∈ wAll := wA_1 (j := 92) rfl rfl
theorem k_1_94 : (Jvm.Cond.lays "StaveHouse$Tokens" "StaveHouse$Tokens" "alteration" "I") ∈ wAll := wA_1 (j := 94) rfl rfl
theorem k_1_96 : (Jvm.Cond.laysFinal "StaveHouse$Tokens" "StaveHouse$Tokens" "kinds" "[I") ∈ wAll := wA_1 (j := 96) rfl rfl
theorem k_1_98 : (Jvm.Cond.laysFinal "StaveHouse$Tokens" "StaveHouse$Tokens" "places" "[I") ∈ wAll := wA_1 (j := 98) rfl rfl
theorem k_1_100 : (Jvm.Cond.laysFinal "StaveHouse$Tokens" "StaveHouse$Tokens" "values" "[J") ∈ wAll := wA_1 (j := 100) rfl rfl
theorem k_1_102 : (Jvm.Cond.lays "StaveHouse$Tokens" "StaveHouse$Tokens" "next" "I") ∈ wAll := wA_1 (j := 102) rfl rfl
theorem k_1_209 : (Jvm.Cond.lays "StaveHouse$Walker" "StaveHouse$Walker" "tree" "LStaveHouse$Parser;") ∈ wAll := wA_1 (j := 209) rfl rfl
theorem k_1_211 : (Jvm.Cond.lays "StaveHouse$Walker" "StaveHouse$Walker" "part" "LStaveHouse$Part;") ∈ wAll := wA_1 (j := 211) rfl rfl
theorem k_1_213 : (Jvm.Cond.lays "StaveHouse$Walker" "StaveHouse$Walker" "wrong" "I") ∈ wAll := wA_1 (j := 213) rfl rfl
theorem k_1_215 : (Jvm.Cond.lays "StaveHouse$Walker" "StaveHouse$Walker" "gone" "I") ∈ wAll := wA_1 (j := 215) rfl rfl
theorem k_1_217 : (Jvm.Cond.lays "StaveHouse$Walker" "StaveHouse$Walker" "loud" "I") ∈ wAll := wA_1 (j := 217) rfl rfl
theorem k_1_219 : (Jvm.Cond.lays "StaveHouse$Walker" "StaveHouse$Walker" "backs" "I") ∈ wAll := wA_1 (j := 219) rfl rfl
theorem k_1_221 : (Jvm.Cond.lays "StaveHouse$Walker" "StaveHouse$Walker" "brackets" "I") ∈ wAll := wA_1 (j := 221) rfl rfl
theorem k_1_223 : (Jvm.Cond.lays "StaveHouse$Walker" "StaveHouse$Walker" "bracket" "I") ∈ wAll := wA_1 (j := 223) rfl rfl
theorem k_1_225 : (Jvm.Cond.lays "StaveHouse$Walker" "StaveHouse$Walker" "bracketPlace" "I") ∈ wAll := wA_1 (j := 225) rfl rfl
theorem k_1_227 : (Jvm.Cond.lays "StaveHouse$Walker" "StaveHouse$Walker" "tupletFirst" "I") ∈ wAll := wA_1 (j := 227) rfl rfl
theorem k_1_229 : (Jvm.Cond.lays "StaveHouse$Walker" "StaveHouse$Walker" "tupletSecond" "I") ∈ wAll := wA_1 (j := 229) rfl rfl
theorem k_1_231 : (Jvm.Cond.lays "StaveHouse$Walker" "StaveHouse$Walker" "come" "J") ∈ wAll := wA_1 (j := 231) rfl rfl
theorem k_1_233 : (Jvm.Cond.lays "StaveHouse$Walker" "StaveHouse$Walker" "farthest" "J") ∈ wAll := wA_1 (j := 233) rfl rfl
theorem k_1_235 : (Jvm.Cond.lays "StaveHouse$Walker" "StaveHouse$Walker" "bar" "J") ∈ wAll := wA_1 (j := 235) rfl rfl
theorem k_1_237 : (Jvm.Cond.laysFinal "StaveHouse$Walker" "StaveHouse$Walker" "powers" "[I") ∈ wAll := wA_1 (j := 237) rfl rfl
theorem k_1_239 : (Jvm.Cond.laysFinal "StaveHouse$Walker" "StaveHouse$Walker" "carrySigns" "[I") ∈ wAll := wA_1 (j := 239) rfl rfl
theorem k_2_1 : (Jvm.Cond.laysFinal "StaveHouse$Walker" "StaveHouse$Walker" "carrySteps" "[I") ∈ wAll := wA_2 (j := 1) rfl rfl
theorem k_2_3 : (Jvm.Cond.laysFinal "StaveHouse$Walker" "StaveHouse$Walker" "carryTones" "[I") ∈ wAll := wA_2 (j := 3) rfl rfl
theorem k_2_5 : (Jvm.Cond.lays "StaveHouse$Walker" "StaveHouse$Walker" "carries" "I") ∈ wAll := wA_2 (j := 5) rfl rfl
theorem k_2_137 : (Jvm.Cond.laysFinal "StaveHouse" "StaveHouse" "tape" "LStaveHouse$ByteRow;") ∈ wAll := wA_2 (j := 137) rfl rfl
theorem k_2_139 : (Jvm.Cond.laysFinal "StaveHouse" "StaveHouse" "waiting" "[I") ∈ wAll := wA_2 (j := 139) rfl rfl
theorem k_2_141 : (Jvm.Cond.laysFinal "StaveHouse" "StaveHouse" "written" "LStaveHouse$ByteRow;") ∈ wAll := wA_2 (j := 141) rfl rfl
theorem k_2_143 : (Jvm.Cond.laysFinal "StaveHouse" "StaveHouse" "pieces" "[LStaveHouse$Piece;") ∈ wAll := wA_2 (j := 143) rfl rfl
theorem k_2_145 : (Jvm.Cond.laysFinal "StaveHouse" "StaveHouse" "parser" "LStaveHouse$Parser;") ∈ wAll := wA_2 (j := 145) rfl rfl
theorem k_2_147 : (Jvm.Cond.laysFinal "StaveHouse" "StaveHouse" "walker" "LStaveHouse$Walker;") ∈ wAll := wA_2 (j := 147) rfl rfl
theorem k_2_149 : (Jvm.Cond.laysFinal "StaveHouse" "StaveHouse" "scribe" "LStaveHouse$Scribe;") ∈ wAll := wA_2 (j := 149) rfl rfl
theorem k_2_151 : (Jvm.Cond.lays "StaveHouse" "StaveHouse" "spare" "LStaveHouse$Piece;") ∈ wAll := wA_2 (j := 151) rfl rfl
theorem k_2_153 : (Jvm.Cond.lays "StaveHouse" "StaveHouse" "opened" "LStaveHouse$SoundFile;") ∈ wAll := wA_2 (j := 153) rfl rfl
theorem k_2_155 : (Jvm.Cond.lays "StaveHouse" "StaveHouse" "spareFile" "LStaveHouse$SoundFile;") ∈ wAll := wA_2 (j := 155) rfl rfl
theorem d_1_1_0 : decode prog_1_method_1_code 0 = .ok (.aload_n 0, 1) := by decide +kernel
theorem d_1_1_1 : decode prog_1_method_1_code 1 = .ok (.invokespecial 1, 3) := by decide +kernel
theorem d_1_1_4 : decode prog_1_method_1_code 4 = .ok (.aload_n 0, 1) := by decide +kernel
theorem d_1_1_5 : decode prog_1_method_1_code 5 = .ok (.new 7, 3) := by decide +kernel
theorem d_1_1_8 : decode prog_1_method_1_code 8 = .ok (.dup, 1) := by decide +kernel
theorem d_1_1_9 : decode prog_1_method_1_code 9 = .ok (.sipush 3000, 3) := by decide +kernel
theorem d_1_1_12 : decode prog_1_method_1_code 12 = .ok (.invokespecial 11, 3) := by decide +kernel
theorem d_2_1_0 : decode prog_2_method_1_code 0 = .ok (.aload_n 0, 1) := by decide +kernel
theorem d_2_1_1 : decode prog_2_method_1_code 1 = .ok (.invokespecial 3, 3) := by decide +kernel
theorem d_2_1_4 : decode prog_2_method_1_code 4 = .ok (.aload_n 0, 1) := by decide +kernel
theorem d_2_1_5 : decode prog_2_method_1_code 5 = .ok (.iload_n 1, 1) := by decide +kernel
theorem d_2_1_6 : decode prog_2_method_1_code 6 = .ok (.iconst 1, 1) := by decide +kernel
theorem d_2_1_7 : decode prog_2_method_1_code 7 = .ok (.invokestatic 9, 3) := by decide +kernel
theorem d_2_1_10 : decode prog_2_method_1_code 10 = .ok (.newarray .int, 2) := by decide +kernel
theorem d_2_1_12 : decode prog_2_method_1_code 12 = .ok (.putfield 15, 3) := by decide +kernel
theorem d_2_1_15 : decode prog_2_method_1_code 15 = .ok (.return_, 1) := by decide +kernel
theorem d_1_1_15 : decode prog_1_method_1_code 15 = .ok (.putfield 14, 3) := by decide +kernel
theorem d_1_1_18 : decode prog_1_method_1_code 18 = .ok (.aload_n 0, 1) := by decide +kernel
theorem d_1_1_19 : decode prog_1_method_1_code 19 = .ok (.bipush 20, 2) := by decide +kernel
theorem d_1_1_21 : decode prog_1_method_1_code 21 = .ok (.newarray .int, 2) := by decide +kernel
theorem d_1_1_23 : decode prog_1_method_1_code 23 = .ok (.putfield 18, 3) := by decide +kernel
theorem d_1_1_26 : decode prog_1_method_1_code 26 = .ok (.aload_n 0, 1) := by decide +kernel
theorem d_1_1_27 : decode prog_1_method_1_code 27 = .ok (.new 7, 3) := by decide +kernel
theorem d_1_1_30 : decode prog_1_method_1_code 30 = .ok (.dup, 1) := by decide +kernel
theorem d_1_1_31 : decode prog_1_method_1_code 31 = .ok (.sipush 20480, 3) := by decide +kernel
theorem d_1_1_34 : decode prog_1_method_1_code 34 = .ok (.invokespecial 11, 3) := by decide +kernel
theorem d_1_1_37 : decode prog_1_method_1_code 37 = .ok (.putfield 22, 3) := by decide +kernel
theorem d_1_1_40 : decode prog_1_method_1_code 40 = .ok (.aload_n 0, 1) := by decide +kernel
theorem d_1_1_41 : decode prog_1_method_1_code 41 = .ok (.iconst 2, 1) := by decide +kernel
theorem d_1_1_42 : decode prog_1_method_1_code 42 = .ok (.anewarray 25, 3) := by decide +kernel
theorem d_1_1_45 : decode prog_1_method_1_code 45 = .ok (.putfield 27, 3) := by decide +kernel
theorem d_1_1_48 : decode prog_1_method_1_code 48 = .ok (.aload_n 0, 1) := by decide +kernel
theorem d_1_1_49 : decode prog_1_method_1_code 49 = .ok (.new 31, 3) := by decide +kernel
theorem d_1_1_52 : decode prog_1_method_1_code 52 = .ok (.dup, 1) := by decide +kernel
theorem d_1_1_53 : decode prog_1_method_1_code 53 = .ok (.invokespecial 33, 3) := by decide +kernel
theorem d_5_1_0 : decode prog_5_method_1_code 0 = .ok (.aload_n 0, 1) := by decide +kernel
theorem d_5_1_1 : decode prog_5_method_1_code 1 = .ok (.invokespecial 3, 3) := by decide +kernel
theorem d_5_1_4 : decode prog_5_method_1_code 4 = .ok (.aload_n 0, 1) := by decide +kernel
theorem d_5_1_5 : decode prog_5_method_1_code 5 = .ok (.sipush 3000, 3) := by decide +kernel
theorem d_5_1_8 : decode prog_5_method_1_code 8 = .ok (.newarray .int, 2) := by decide +kernel
theorem d_5_1_10 : decode prog_5_method_1_code 10 = .ok (.putfield 9, 3) := by decide +kernel
theorem d_5_1_13 : decode prog_5_method_1_code 13 = .ok (.aload_n 0, 1) := by decide +kernel
theorem d_5_1_14 : decode prog_5_method_1_code 14 = .ok (.sipush 3000, 3) := by decide +kernel
theorem d_5_1_17 : decode prog_5_method_1_code 17 = .ok (.newarray .int, 2) := by decide +kernel
theorem d_5_1_19 : decode prog_5_method_1_code 19 = .ok (.putfield 15, 3) := by decide +kernel
theorem d_5_1_22 : decode prog_5_method_1_code 22 = .ok (.aload_n 0, 1) := by decide +kernel
theorem d_5_1_23 : decode prog_5_method_1_code 23 = .ok (.sipush 3000, 3) := by decide +kernel
theorem d_5_1_26 : decode prog_5_method_1_code 26 = .ok (.newarray .int, 2) := by decide +kernel
theorem d_5_1_28 : decode prog_5_method_1_code 28 = .ok (.putfield 18, 3) := by decide +kernel
theorem d_5_1_31 : decode prog_5_method_1_code 31 = .ok (.aload_n 0, 1) := by decide +kernel
theorem d_5_1_32 : decode prog_5_method_1_code 32 = .ok (.sipush 3000, 3) := by decide +kernel
theorem d_5_1_35 : decode prog_5_method_1_code 35 = .ok (.newarray .int, 2) := by decide +kernel
theorem d_5_1_37 : decode prog_5_method_1_code 37 = .ok (.putfield 21, 3) := by decide +kernel
theorem d_5_1_40 : decode prog_5_method_1_code 40 = .ok (.aload_n 0, 1) := by decide +kernel
theorem d_5_1_41 : decode prog_5_method_1_code 41 = .ok (.sipush 3000, 3) := by decide +kernel
theorem d_5_1_44 : decode prog_5_method_1_code 44 = .ok (.newarray .int, 2) := by decide +kernel
theorem d_5_1_46 : decode prog_5_method_1_code 46 = .ok (.putfield 24, 3) := by decide +kernel
theorem d_5_1_49 : decode prog_5_method_1_code 49 = .ok (.aload_n 0, 1) := by decide +kernel
theorem d_5_1_50 : decode prog_5_method_1_code 50 = .ok (.sipush 3000, 3) := by decide +kernel
theorem d_5_1_53 : decode prog_5_method_1_code 53 = .ok (.newarray .int, 2) := by decide +kernel
theorem d_5_1_55 : decode prog_5_method_1_code 55 = .ok (.putfield 27, 3) := by decide +kernel
theorem d_5_1_58 : decode prog_5_method_1_code 58 = .ok (.aload_n 0, 1) := by decide +kernel
theorem d_5_1_59 : decode prog_5_method_1_code 59 = .ok (.sipush 3000, 3) := by decide +kernel
theorem d_5_1_62 : decode prog_5_method_1_code 62 = .ok (.newarray .int, 2) := by decide +kernel
theorem d_5_1_64 : decode prog_5_method_1_code 64 = .ok (.putfield 30, 3) := by decide +kernel
theorem d_5_1_67 : decode prog_5_method_1_code 67 = .ok (.aload_n 0, 1) := by decide +kernel
theorem d_5_1_68 : decode prog_5_method_1_code 68 = .ok (.sipush 3000, 3) := by decide +kernel
theorem d_5_1_71 : decode prog_5_method_1_code 71 = .ok (.newarray .int, 2) := by decide +kernel
theorem d_5_1_73 : decode prog_5_method_1_code 73 = .ok (.putfield 33, 3) := by decide +kernel
theorem d_5_1_76 : decode prog_5_method_1_code 76 = .ok (.aload_n 0, 1) := by decide +kernel
theorem d_5_1_77 : decode prog_5_method_1_code 77 = .ok (.sipush 1500, 3) := by decide +kernel
theorem d_5_1_80 : decode prog_5_method_1_code 80 = .ok (.newarray .int, 2) := by decide +kernel
theorem d_5_1_82 : decode prog_5_method_1_code 82 = .ok (.putfield 36, 3) := by decide +kernel
theorem d_5_1_85 : decode prog_5_method_1_code 85 = .ok (.aload_n 0, 1) := by decide +kernel
theorem d_5_1_86 : decode prog_5_method_1_code 86 = .ok (.sipush 1500, 3) := by decide +kernel
theorem d_5_1_89 : decode prog_5_method_1_code 89 = .ok (.newarray .int, 2) := by decide +kernel
theorem d_5_1_91 : decode prog_5_method_1_code 91 = .ok (.putfield 39, 3) := by decide +kernel
theorem d_5_1_94 : decode prog_5_method_1_code 94 = .ok (.aload_n 0, 1) := by decide +kernel
theorem d_5_1_95 : decode prog_5_method_1_code 95 = .ok (.sipush 1500, 3) := by decide +kernel
theorem d_5_1_98 : decode prog_5_method_1_code 98 = .ok (.newarray .int, 2) := by decide +kernel
theorem d_5_1_100 : decode prog_5_method_1_code 100 = .ok (.putfield 42, 3) := by decide +kernel
theorem d_5_1_103 : decode prog_5_method_1_code 103 = .ok (.aload_n 0, 1) := by decide +kernel
theorem d_5_1_104 : decode prog_5_method_1_code 104 = .ok (.new 45, 3) := by decide +kernel
theorem d_5_1_107 : decode prog_5_method_1_code 107 = .ok (.dup, 1) := by decide +kernel
theorem d_5_1_108 : decode prog_5_method_1_code 108 = .ok (.invokespecial 47, 3) := by decide +kernel
theorem d_12_1_0 : decode prog_12_method_1_code 0 = .ok (.aload_n 0, 1) := by decide +kernel
theorem d_12_1_1 : decode prog_12_method_1_code 1 = .ok (.invokespecial 3, 3) := by decide +kernel
theorem d_12_1_4 : decode prog_12_method_1_code 4 = .ok (.aload_n 0, 1) := by decide +kernel
theorem d_12_1_5 : decode prog_12_method_1_code 5 = .ok (.sipush 3001, 3) := by decide +kernel
theorem d_12_1_8 : decode prog_12_method_1_code 8 = .ok (.newarray .int, 2) := by decide +kernel
theorem d_12_1_10 : decode prog_12_method_1_code 10 = .ok (.putfield 9, 3) := by decide +kernel
theorem d_12_1_13 : decode prog_12_method_1_code 13 = .ok (.aload_n 0, 1) := by decide +kernel
theorem d_12_1_14 : decode prog_12_method_1_code 14 = .ok (.sipush 3001, 3) := by decide +kernel
theorem d_12_1_17 : decode prog_12_method_1_code 17 = .ok (.newarray .int, 2) := by decide +kernel
theorem d_12_1_19 : decode prog_12_method_1_code 19 = .ok (.putfield 15, 3) := by decide +kernel
theorem d_12_1_22 : decode prog_12_method_1_code 22 = .ok (.aload_n 0, 1) := by decide +kernel
theorem d_12_1_23 : decode prog_12_method_1_code 23 = .ok (.sipush 3001, 3) := by decide +kernel
theorem d_12_1_26 : decode prog_12_method_1_code 26 = .ok (.newarray .long, 2) := by decide +kernel
theorem d_12_1_28 : decode prog_12_method_1_code 28 = .ok (.putfield 18, 3) := by decide +kernel
theorem d_12_1_31 : decode prog_12_method_1_code 31 = .ok (.return_, 1) := by decide +kernel
theorem d_5_1_111 : decode prog_5_method_1_code 111 = .ok (.putfield 48, 3) := by decide +kernel
theorem d_5_1_114 : decode prog_5_method_1_code 114 = .ok (.aload_n 0, 1) := by decide +kernel
theorem d_5_1_115 : decode prog_5_method_1_code 115 = .ok (.bipush 6, 2) := by decide +kernel
theorem d_5_1_117 : decode prog_5_method_1_code 117 = .ok (.newarray .long, 2) := by decide +kernel
theorem d_5_1_119 : decode prog_5_method_1_code 119 = .ok (.putfield 52, 3) := by decide +kernel
theorem d_5_1_122 : decode prog_5_method_1_code 122 = .ok (.aload_n 0, 1) := by decide +kernel
theorem d_5_1_123 : decode prog_5_method_1_code 123 = .ok (.bipush 6, 2) := by decide +kernel
theorem d_5_1_125 : decode prog_5_method_1_code 125 = .ok (.newarray .int, 2) := by decide +kernel
theorem d_5_1_127 : decode prog_5_method_1_code 127 = .ok (.putfield 56, 3) := by decide +kernel
theorem d_5_1_130 : decode prog_5_method_1_code 130 = .ok (.return_, 1) := by decide +kernel
theorem d_1_1_56 : decode prog_1_method_1_code 56 = .ok (.putfield 34, 3) := by decide +kernel
theorem d_1_1_59 : decode prog_1_method_1_code 59 = .ok (.aload_n 0, 1) := by decide +kernel
theorem d_1_1_60 : decode prog_1_method_1_code 60 = .ok (.new 38, 3) := by decide +kernel
theorem d_1_1_63 : decode prog_1_method_1_code 63 = .ok (.dup, 1) := by decide +kernel
theorem d_1_1_64 : decode prog_1_method_1_code 64 = .ok (.invokespecial 40, 3) := by decide +kernel
theorem d_13_1_0 : decode prog_13_method_1_code 0 = .ok (.aload_n 0, 1) := by decide +kernel
theorem d_13_1_1 : decode prog_13_method_1_code 1 = .ok (.invokespecial 3, 3) := by decide +kernel
theorem d_13_1_4 : decode prog_13_method_1_code 4 = .ok (.aload_n 0, 1) := by decide +kernel
theorem d_13_1_5 : decode prog_13_method_1_code 5 = .ok (.iconst 4, 1) := by decide +kernel
theorem d_13_1_6 : decode prog_13_method_1_code 6 = .ok (.newarray .int, 2) := by decide +kernel
theorem d_13_1_8 : decode prog_13_method_1_code 8 = .ok (.putfield 9, 3) := by decide +kernel
theorem d_13_1_11 : decode prog_13_method_1_code 11 = .ok (.aload_n 0, 1) := by decide +kernel
theorem d_13_1_12 : decode prog_13_method_1_code 12 = .ok (.bipush 64, 2) := by decide +kernel
theorem d_13_1_14 : decode prog_13_method_1_code 14 = .ok (.newarray .int, 2) := by decide +kernel
theorem d_13_1_16 : decode prog_13_method_1_code 16 = .ok (.putfield 15, 3) := by decide +kernel
theorem d_13_1_19 : decode prog_13_method_1_code 19 = .ok (.aload_n 0, 1) := by decide +kernel
theorem d_13_1_20 : decode prog_13_method_1_code 20 = .ok (.bipush 64, 2) := by decide +kernel
theorem d_13_1_22 : decode prog_13_method_1_code 22 = .ok (.newarray .int, 2) := by decide +kernel
theorem d_13_1_24 : decode prog_13_method_1_code 24 = .ok (.putfield 18, 3) := by decide +kernel
theorem d_13_1_27 : decode prog_13_method_1_code 27 = .ok (.aload_n 0, 1) := by decide +kernel
theorem d_13_1_28 : decode prog_13_method_1_code 28 = .ok (.bipush 64, 2) := by decide +kernel
theorem d_13_1_30 : decode prog_13_method_1_code 30 = .ok (.newarray .int, 2) := by decide +kernel
theorem d_13_1_32 : decode prog_13_method_1_code 32 = .ok (.putfield 21, 3) := by decide +kernel
theorem d_13_1_35 : decode prog_13_method_1_code 35 = .ok (.return_, 1) := by decide +kernel
theorem d_1_1_67 : decode prog_1_method_1_code 67 = .ok (.putfield 41, 3) := by decide +kernel
theorem d_1_1_70 : decode prog_1_method_1_code 70 = .ok (.aload_n 0, 1) := by decide +kernel
theorem d_1_1_71 : decode prog_1_method_1_code 71 = .ok (.new 45, 3) := by decide +kernel
theorem d_1_1_74 : decode prog_1_method_1_code 74 = .ok (.dup, 1) := by decide +kernel
theorem d_1_1_75 : decode prog_1_method_1_code 75 = .ok (.invokespecial 47, 3) := by decide +kernel
theorem d_9_1_0 : decode prog_9_method_1_code 0 = .ok (.aload_n 0, 1) := by decide +kernel
theorem d_9_1_1 : decode prog_9_method_1_code 1 = .ok (.invokespecial 3, 3) := by decide +kernel
theorem d_9_1_4 : decode prog_9_method_1_code 4 = .ok (.aload_n 0, 1) := by decide +kernel
theorem d_9_1_5 : decode prog_9_method_1_code 5 = .ok (.new 9, 3) := by decide +kernel
theorem d_9_1_8 : decode prog_9_method_1_code 8 = .ok (.dup, 1) := by decide +kernel
theorem d_9_1_9 : decode prog_9_method_1_code 9 = .ok (.invokespecial 11, 3) := by decide +kernel
theorem d_3_1_0 : decode prog_3_method_1_code 0 = .ok (.aload_n 0, 1) := by decide +kernel
theorem d_3_1_1 : decode prog_3_method_1_code 1 = .ok (.invokespecial 3, 3) := by decide +kernel
theorem d_3_1_4 : decode prog_3_method_1_code 4 = .ok (.aload_n 0, 1) := by decide +kernel
theorem d_3_1_5 : decode prog_3_method_1_code 5 = .ok (.bipush 6, 2) := by decide +kernel
theorem d_3_1_7 : decode prog_3_method_1_code 7 = .ok (.newarray .int, 2) := by decide +kernel
theorem d_3_1_9 : decode prog_3_method_1_code 9 = .ok (.putfield 9, 3) := by decide +kernel
theorem d_3_1_12 : decode prog_3_method_1_code 12 = .ok (.aload_n 0, 1) := by decide +kernel
theorem d_3_1_13 : decode prog_3_method_1_code 13 = .ok (.bipush 6, 2) := by decide +kernel
theorem d_3_1_15 : decode prog_3_method_1_code 15 = .ok (.newarray .int, 2) := by decide +kernel
theorem d_3_1_17 : decode prog_3_method_1_code 17 = .ok (.putfield 15, 3) := by decide +kernel
theorem d_3_1_20 : decode prog_3_method_1_code 20 = .ok (.return_, 1) := by decide +kernel
theorem d_9_1_12 : decode prog_9_method_1_code 12 = .ok (.putfield 12, 3) := by decide +kernel
theorem d_9_1_15 : decode prog_9_method_1_code 15 = .ok (.aload_n 0, 1) := by decide +kernel
theorem d_9_1_16 : decode prog_9_method_1_code 16 = .ok (.sipush 128, 3) := by decide +kernel
theorem d_9_1_19 : decode prog_9_method_1_code 19 = .ok (.newarray .boolean, 2) := by decide +kernel
theorem d_9_1_21 : decode prog_9_method_1_code 21 = .ok (.putfield 18, 3) := by decide +kernel
theorem d_9_1_24 : decode prog_9_method_1_code 24 = .ok (.return_, 1) := by decide +kernel
theorem d_1_1_78 : decode prog_1_method_1_code 78 = .ok (.putfield 48, 3) := by decide +kernel
theorem d_1_1_81 : decode prog_1_method_1_code 81 = .ok (.return_, 1) := by decide +kernel
set_option maxRecDepth 20000 in
theorem inW_0 : ∀ w ∈ u_ws RX0 TX0 3, w ∈ wAll := by
  show ∀ w ∈ [(Jvm.Cond.laysFinal "StaveHouse$ByteRow" "StaveHouse$ByteRow" "bytes" "[I"), (Jvm.Cond.lays "StaveHouse$ByteRow" "StaveHouse$ByteRow" "size" "I"), (Jvm.Cond.lays "StaveHouse$ByteRow" "StaveHouse$ByteRow" "full" "Z")], w ∈ wAll
  exact List.forall_mem_cons.mpr ⟨k_1_50, List.forall_mem_cons.mpr ⟨k_1_52, List.forall_mem_cons.mpr ⟨k_1_54, fun _ h => absurd h List.not_mem_nil⟩⟩⟩
set_option maxRecDepth 20000 in
theorem inW_1 : ∀ w ∈ u_ws RX1 TX1 14, w ∈ wAll := by
  show ∀ w ∈ [(Jvm.Cond.lays "StaveHouse$Event" "StaveHouse$Event" "place" "J"), (Jvm.Cond.lays "StaveHouse$Event" "StaveHouse$Event" "length" "J"), (Jvm.Cond.lays "StaveHouse$Event" "StaveHouse$Event" "value" "I"), (Jvm.Cond.lays "StaveHouse$Event" "StaveHouse$Event" "tupletFirst" "I"), (Jvm.Cond.lays "StaveHouse$Event" "StaveHouse$Event" "tupletSecond" "I"), (Jvm.Cond.lays "StaveHouse$Event" "StaveHouse$Event" "bracket" "I"), (Jvm.Cond.lays "StaveHouse$Event" "StaveHouse$Event" "bracketPlace" "I"), (Jvm.Cond.lays "StaveHouse$Event" "StaveHouse$Event" "marks" "I"), (Jvm.Cond.lays "StaveHouse$Event" "StaveHouse$Event" "loud" "I"), (Jvm.Cond.lays "StaveHouse$Event" "StaveHouse$Event" "token" "I"), (Jvm.Cond.lays "StaveHouse$Event" "StaveHouse$Event" "count" "I"), (Jvm.Cond.lays "StaveHouse$Event" "StaveHouse$Event" "slurred" "Z"), (Jvm.Cond.laysFinal "StaveHouse$Event" "StaveHouse$Event" "steps" "[I"), (Jvm.Cond.laysFinal "StaveHouse$Event" "StaveHouse$Event" "alterations" "[I")], w ∈ wAll
  exact List.forall_mem_cons.mpr ⟨k_2_69, List.forall_mem_cons.mpr ⟨k_2_71, List.forall_mem_cons.mpr ⟨k_2_73, List.forall_mem_cons.mpr ⟨k_2_75, List.forall_mem_cons.mpr ⟨k_2_77, List.forall_mem_cons.mpr ⟨k_2_79, List.forall_mem_cons.mpr ⟨k_2_81, List.forall_mem_cons.mpr ⟨k_2_83, List.forall_mem_cons.mpr ⟨k_2_85, List.forall_mem_cons.mpr ⟨k_2_87, List.forall_mem_cons.mpr ⟨k_2_89, List.forall_mem_cons.mpr ⟨k_2_91, List.forall_mem_cons.mpr ⟨k_2_93, List.forall_mem_cons.mpr ⟨k_2_95, fun _ h => absurd h List.not_mem_nil⟩⟩⟩⟩⟩⟩⟩⟩⟩⟩⟩⟩⟩⟩
set_option maxRecDepth 20000 in
theorem inW_3 : ∀ w ∈ u_ws RX3 TX3 22, w ∈ wAll := by
  show ∀ w ∈ [(Jvm.Cond.laysFinal "StaveHouse$Parser" "StaveHouse$Parser" "kind" "[I"), (Jvm.Cond.laysFinal "StaveHouse$Parser" "StaveHouse$Parser" "place" "[I"), (Jvm.Cond.laysFinal "StaveHouse$Parser" "StaveHouse$Parser" "first" "[I"), (Jvm.Cond.laysFinal "StaveHouse$Parser" "StaveHouse$Parser" "second" "[I"), (Jvm.Cond.laysFinal "StaveHouse$Parser" "StaveHouse$Parser" "child" "[I"), (Jvm.Cond.laysFinal "StaveHouse$Parser" "StaveHouse$Parser" "next" "[I"), (Jvm.Cond.laysFinal "StaveHouse$Parser" "StaveHouse$Parser" "count" "[I"), (Jvm.Cond.laysFinal "StaveHouse$Parser" "StaveHouse$Parser" "marks" "[I"), (Jvm.Cond.laysFinal "StaveHouse$Parser" "StaveHouse$Parser" "pitchSteps" "[I"), (Jvm.Cond.laysFinal "StaveHouse$Parser" "StaveHouse$Parser" "pitchAlterations" "[I"), (Jvm.Cond.laysFinal "StaveHouse$Parser" "StaveHouse$Parser" "pitchPlaces" "[I"), (Jvm.Cond.laysFinal "StaveHouse$Parser" "StaveHouse$Parser" "token" "LStaveHouse$Tokens;"), (Jvm.Cond.laysFinal "StaveHouse$Parser" "StaveHouse$Parser" "letNames" "[J"), (Jvm.Cond.laysFinal "StaveHouse$Parser" "StaveHouse$Parser" "letItems" "[I"), (Jvm.Cond.lays "StaveHouse$Parser" "StaveHouse$Parser" "items" "I"), (Jvm.Cond.lays "StaveHouse$Parser" "StaveHouse$Parser" "pitches" "I"), (Jvm.Cond.lays "StaveHouse$Parser" "StaveHouse$Parser" "lets" "I"), (Jvm.Cond.lays "StaveHouse$Parser" "StaveHouse$Parser" "headsTold" "I"), (Jvm.Cond.lays "StaveHouse$Parser" "StaveHouse$Parser" "depth" "I"), (Jvm.Cond.lays "StaveHouse$Parser" "StaveHouse$Parser" "number" "I"), (Jvm.Cond.lays "StaveHouse$Parser" "StaveHouse$Parser" "length" "I"), (Jvm.Cond.lays "StaveHouse$Parser" "StaveHouse$Parser" "wrong" "I")], w ∈ wAll
  exact List.forall_mem_cons.mpr ⟨k_1_139, List.forall_mem_cons.mpr ⟨k_1_141, List.forall_mem_cons.mpr ⟨k_1_143, List.forall_mem_cons.mpr ⟨k_1_145, List.forall_mem_cons.mpr ⟨k_1_147, List.forall_mem_cons.mpr ⟨k_1_149, List.forall_mem_cons.mpr ⟨k_1_151, List.forall_mem_cons.mpr ⟨k_1_153, List.forall_mem_cons.mpr ⟨k_1_155, List.forall_mem_cons.mpr ⟨k_1_157, List.forall_mem_cons.mpr ⟨k_1_159, List.forall_mem_cons.mpr ⟨k_1_161, List.forall_mem_cons.mpr ⟨k_1_163, List.forall_mem_cons.mpr ⟨k_1_165, List.forall_mem_cons.mpr ⟨k_1_167, List.forall_mem_cons.mpr ⟨k_1_169, List.forall_mem_cons.mpr ⟨k_1_171, List.forall_mem_cons.mpr ⟨k_1_173, List.forall_mem_cons.mpr ⟨k_1_175, List.forall_mem_cons.mpr ⟨k_1_177, List.forall_mem_cons.mpr ⟨k_1_179, List.forall_mem_cons.mpr ⟨k_1_181, fun _ h => absurd h List.not_mem_nil⟩⟩⟩⟩⟩⟩⟩⟩⟩⟩⟩⟩⟩⟩⟩⟩⟩⟩⟩⟩⟩⟩
set_option maxRecDepth 20000 in
theorem inW_7 : ∀ w ∈ u_ws RX7 TX7 9, w ∈ wAll := by
  show ∀ w ∈ [(Jvm.Cond.lays "StaveHouse$Scribe" "StaveHouse$Scribe" "source" "LStaveHouse$SoundFile;"), (Jvm.Cond.lays "StaveHouse$Scribe" "StaveHouse$Scribe" "page" "LStaveHouse$ByteRow;"), (Jvm.Cond.lays "StaveHouse$Scribe" "StaveHouse$Scribe" "grid" "I"), (Jvm.Cond.lays "StaveHouse$Scribe" "StaveHouse$Scribe" "bar" "I"), (Jvm.Cond.laysFinal "StaveHouse$Scribe" "StaveHouse$Scribe" "event" "LStaveHouse$Event;"), (Jvm.Cond.lays "StaveHouse$Scribe" "StaveHouse$Scribe" "from" "J"), (Jvm.Cond.lays "StaveHouse$Scribe" "StaveHouse$Scribe" "to" "J"), (Jvm.Cond.lays "StaveHouse$Scribe" "StaveHouse$Scribe" "next" "I"), (Jvm.Cond.laysFinal "StaveHouse$Scribe" "StaveHouse$Scribe" "hasTone" "[Z")], w ∈ wAll
  exact List.forall_mem_cons.mpr ⟨k_2_107, List.forall_mem_cons.mpr ⟨k_2_109, List.forall_mem_cons.mpr ⟨k_2_111, List.forall_mem_cons.mpr ⟨k_2_113, List.forall_mem_cons.mpr ⟨k_2_115, List.forall_mem_cons.mpr ⟨k_2_117, List.forall_mem_cons.mpr ⟨k_2_119, List.forall_mem_cons.mpr ⟨k_2_121, List.forall_mem_cons.mpr ⟨k_2_123, fun _ h => absurd h List.not_mem_nil⟩⟩⟩⟩⟩⟩⟩⟩⟩
set_option maxRecDepth 20000 in
theorem inW_10 : ∀ w ∈ u_ws RX10 TX10 9, w ∈ wAll := by
  show ∀ w ∈ [(Jvm.Cond.lays "StaveHouse$Tokens" "StaveHouse$Tokens" "kind" "I"), (Jvm.Cond.lays "StaveHouse$Tokens" "StaveHouse$Tokens" "place" "I"), (Jvm.Cond.lays "StaveHouse$Tokens" "StaveHouse$Tokens" "value" "J"), (Jvm.Cond.lays "StaveHouse$Tokens" "StaveHouse$Tokens" "step" "I"), (Jvm.Cond.lays "StaveHouse$Tokens" "StaveHouse$Tokens" "alteration" "I"), (Jvm.Cond.laysFinal "StaveHouse$Tokens" "StaveHouse$Tokens" "kinds" "[I"), (Jvm.Cond.laysFinal "StaveHouse$Tokens" "StaveHouse$Tokens" "places" "[I"), (Jvm.Cond.laysFinal "StaveHouse$Tokens" "StaveHouse$Tokens" "values" "[J"), (Jvm.Cond.lays "StaveHouse$Tokens" "StaveHouse$Tokens" "next" "I")], w ∈ wAll
  exact List.forall_mem_cons.mpr ⟨k_1_86, List.forall_mem_cons.mpr ⟨k_1_88, List.forall_mem_cons.mpr ⟨k_1_90, List.forall_mem_cons.mpr ⟨k_1_92, List.forall_mem_cons.mpr ⟨k_1_94, List.forall_mem_cons.mpr ⟨k_1_96, List.forall_mem_cons.mpr ⟨k_1_98, List.forall_mem_cons.mpr ⟨k_1_100, List.forall_mem_cons.mpr ⟨k_1_102, fun _ h => absurd h List.not_mem_nil⟩⟩⟩⟩⟩⟩⟩⟩⟩
set_option maxRecDepth 20000 in
theorem inW_11 : ∀ w ∈ u_ws RX11 TX11 19, w ∈ wAll := by
  show ∀ w ∈ [(Jvm.Cond.lays "StaveHouse$Walker" "StaveHouse$Walker" "tree" "LStaveHouse$Parser;"), (Jvm.Cond.lays "StaveHouse$Walker" "StaveHouse$Walker" "part" "LStaveHouse$Part;"), (Jvm.Cond.lays "StaveHouse$Walker" "StaveHouse$Walker" "wrong" "I"), (Jvm.Cond.lays "StaveHouse$Walker" "StaveHouse$Walker" "gone" "I"), (Jvm.Cond.lays "StaveHouse$Walker" "StaveHouse$Walker" "loud" "I"), (Jvm.Cond.lays "StaveHouse$Walker" "StaveHouse$Walker" "backs" "I"), (Jvm.Cond.lays "StaveHouse$Walker" "StaveHouse$Walker" "brackets" "I"), (Jvm.Cond.lays "StaveHouse$Walker" "StaveHouse$Walker" "bracket" "I"), (Jvm.Cond.lays "StaveHouse$Walker" "StaveHouse$Walker" "bracketPlace" "I"), (Jvm.Cond.lays "StaveHouse$Walker" "StaveHouse$Walker" "tupletFirst" "I"), (Jvm.Cond.lays "StaveHouse$Walker" "StaveHouse$Walker" "tupletSecond" "I"), (Jvm.Cond.lays "StaveHouse$Walker" "StaveHouse$Walker" "come" "J"), (Jvm.Cond.lays "StaveHouse$Walker" "StaveHouse$Walker" "farthest" "J"), (Jvm.Cond.lays "StaveHouse$Walker" "StaveHouse$Walker" "bar" "J"), (Jvm.Cond.laysFinal "StaveHouse$Walker" "StaveHouse$Walker" "powers" "[I"), (Jvm.Cond.laysFinal "StaveHouse$Walker" "StaveHouse$Walker" "carrySigns" "[I"), (Jvm.Cond.laysFinal "StaveHouse$Walker" "StaveHouse$Walker" "carrySteps" "[I"), (Jvm.Cond.laysFinal "StaveHouse$Walker" "StaveHouse$Walker" "carryTones" "[I"), (Jvm.Cond.lays "StaveHouse$Walker" "StaveHouse$Walker" "carries" "I")], w ∈ wAll
  exact List.forall_mem_cons.mpr ⟨k_1_209, List.forall_mem_cons.mpr ⟨k_1_211, List.forall_mem_cons.mpr ⟨k_1_213, List.forall_mem_cons.mpr ⟨k_1_215, List.forall_mem_cons.mpr ⟨k_1_217, List.forall_mem_cons.mpr ⟨k_1_219, List.forall_mem_cons.mpr ⟨k_1_221, List.forall_mem_cons.mpr ⟨k_1_223, List.forall_mem_cons.mpr ⟨k_1_225, List.forall_mem_cons.mpr ⟨k_1_227, List.forall_mem_cons.mpr ⟨k_1_229, List.forall_mem_cons.mpr ⟨k_1_231, List.forall_mem_cons.mpr ⟨k_1_233, List.forall_mem_cons.mpr ⟨k_1_235, List.forall_mem_cons.mpr ⟨k_1_237, List.forall_mem_cons.mpr ⟨k_1_239, List.forall_mem_cons.mpr ⟨k_2_1, List.forall_mem_cons.mpr ⟨k_2_3, List.forall_mem_cons.mpr ⟨k_2_5, fun _ h => absurd h List.not_mem_nil⟩⟩⟩⟩⟩⟩⟩⟩⟩⟩⟩⟩⟩⟩⟩⟩⟩⟩⟩
set_option maxRecDepth 20000 in
theorem inW_12 : ∀ w ∈ u_ws RX12 TX12 10, w ∈ wAll := by
  show ∀ w ∈ [(Jvm.Cond.laysFinal "StaveHouse" "StaveHouse" "tape" "LStaveHouse$ByteRow;"), (Jvm.Cond.laysFinal "StaveHouse" "StaveHouse" "waiting" "[I"), (Jvm.Cond.laysFinal "StaveHouse" "StaveHouse" "written" "LStaveHouse$ByteRow;"), (Jvm.Cond.laysFinal "StaveHouse" "StaveHouse" "pieces" "[LStaveHouse$Piece;"), (Jvm.Cond.laysFinal "StaveHouse" "StaveHouse" "parser" "LStaveHouse$Parser;"), (Jvm.Cond.laysFinal "StaveHouse" "StaveHouse" "walker" "LStaveHouse$Walker;"), (Jvm.Cond.laysFinal "StaveHouse" "StaveHouse" "scribe" "LStaveHouse$Scribe;"), (Jvm.Cond.lays "StaveHouse" "StaveHouse" "spare" "LStaveHouse$Piece;"), (Jvm.Cond.lays "StaveHouse" "StaveHouse" "opened" "LStaveHouse$SoundFile;"), (Jvm.Cond.lays "StaveHouse" "StaveHouse" "spareFile" "LStaveHouse$SoundFile;")], w ∈ wAll
  exact List.forall_mem_cons.mpr ⟨k_2_137, List.forall_mem_cons.mpr ⟨k_2_139, List.forall_mem_cons.mpr ⟨k_2_141, List.forall_mem_cons.mpr ⟨k_2_143, List.forall_mem_cons.mpr ⟨k_2_145, List.forall_mem_cons.mpr ⟨k_2_147, List.forall_mem_cons.mpr ⟨k_2_149, List.forall_mem_cons.mpr ⟨k_2_151, List.forall_mem_cons.mpr ⟨k_2_153, List.forall_mem_cons.mpr ⟨k_2_155, fun _ h => absurd h List.not_mem_nil⟩⟩⟩⟩⟩⟩⟩⟩⟩⟩
abbrev Q_ByteRow_init_0 (D : va_G) (ca : Nat → ClassId) (a0 : Nat) (g0 : Nat → Value) (A : Nat → Prop) : Array Value → State → Outcome → State → Prop := va_Qv (S := (Nat → Value) × (Nat) × (Nat → Int32)) (fun (u : (Nat → Value) × (Nat) × (Nat → Int32)) => gM g0 u.1 [0] ∧ gF u.1 [(0, .ref u.2.1)] ∧ gF u.2.2 []) (fun u => gB D ca A [(a0, .inr (0, rg 3 u.1)), (u.2.1, .inl (ca 0, 3000, .inl u.2.2))]) A
set_option maxHeartbeats 8000000 in
set_option maxRecDepth 100000 in
theorem c_ByteRow_init_0 (l : Launch) (D : va_G) (ca : Nat → ClassId) (ad av : Nat → Nat) (sz : Nat) (a0 : Nat) (g0 : Nat → Value) (hp0 : gF g0 []) : Met l ({ cls := "StaveHouse$ByteRow", name := "<init>", desc := "(I)V" } : Jvm.MethodName) (Cond.code ({ cls := "StaveHouse$ByteRow", name := "<init>", desc := "(I)V" } : Jvm.MethodName) prog_2_method_1_code 2 (Option.none : Option Jvm.ClassFile.FieldType) :: wAll) ({ frames := 1, cells := 1, slots := 3000, locals := 14 } : Room) (va_Pc [.ref a0, .int 3000] (gPre D ca ad av [(a0, .inr (0, rg 3 g0))] sz)) (Q_ByteRow_init_0 D ca a0 g0 (va_A [(a0, .inr (0, rg 3 g0))] sz)) 1 3000 (va_A [(a0, .inr (0, rg 3 g0))] sz) := by
  refine gMet (Qc := Q_ByteRow_init_0 D ca a0 g0) (lv := [(0, .ref a0), (1, .int 3000)]) (by decide) (Nat.le_of_ble_eq_true rfl) rfl (fun A p e s m below meth c ls hx hb hr hml hown hts hlk hnm hl hP hK hD hS hA hX => ?_)
  have hown : s.vm.findClass "StaveHouse$ByteRow" = some m.cls := hown
  have hnm : meth.name = "<init>" := hnm
  refine lv_aload_n hx hb d_2_1_0 rfl (lv_at hl 0 rfl) ?_
  refine W.objInit hx hb hown (hts _ k_1_37) (hts _ k_1_30) (hts _ k_1_31) rfl (by rw [hml]; exact hl.1) rfl d_2_1_1 (Nat.le_of_ble_eq_true rfl) (Nat.le_of_ble_eq_true rfl) ?_
  refine W.eq (g2 := F0 m 4 ls []) rfl ?_
  refine lv_aload_n hx hb d_2_1_4 rfl (lv_at hl 0 rfl) ?_
  refine lv_iload_n hx hb d_2_1_5 rfl (lv_at hl 1 rfl) ?_
  refine lv_iconst (v := 1) hx hb d_2_1_6 (by decide) ?_
  refine va_mmax hx hb (by rw [hml]; exact hl.1.symm) hown (hts _ k_1_38) (hts _ k_1_39) (hts _ k_1_3) (hts _ k_1_40) (Nat.le_of_ble_eq_true rfl) (Nat.le_of_ble_eq_true rfl) (Nat.le_of_ble_eq_true rfl) (Nat.le_of_ble_eq_true rfl) d_2_1_7 ?_
  refine lv_topi (fun y1 ey1 => ?_)
  obtain rfl : y1 = 3000 := ey1.trans (by decide)
  refine gnewa (atype := .int) hx hb hts (ty := .int) rfl k_1_57 hK 0 rfl (fun _ _ => gu_int) hP hD hS hA (a0 := (3000, .inl (fun _ => 0))) (fun _ => rfl) (by decide) (N' := 3000) (by decide) (Nat.le_of_ble_eq_true rfl) (Nat.le_of_ble_eq_true rfl) (Nat.le_of_ble_eq_true rfl) d_2_1_10 (fun q2 H2 hP2 hD2 hS2 => ?_)
  obtain ⟨f2, hF2, hP2, hD2⟩ : ∃ f : Nat → Int32, gF f [] ∧ va_P D cls ([(a0, .inr (0, rg 3 g0))] ++ [(q2, .inl (ca 0, 3000, .inl f))]) H2 ∧ va_D A ([(a0, .inr (0, rg 3 g0))] ++ [(q2, .inl (ca 0, 3000, .inl f))]) := ⟨_, gF_nil, hP2, hD2⟩
  have hP2 : va_P D cls [(a0, .inr (0, rg 3 g0)), (q2, .inl (ca 0, 3000, .inl f2))] H2 := hP2
  have hD2 : va_D A [(a0, .inr (0, rg 3 g0)), (q2, .inl (ca 0, 3000, .inl f2))] := hD2
  refine W.widen (k := 1) (n := 3000) (Nat.le_of_ble_eq_true rfl) (Nat.le_of_ble_eq_true rfl) ?_
  refine gputF hx hb hts inW_0 tyX0 tyX0_ok nmX0 hown hK hP2 hD2 hS2 0 rfl rfl hp0 0 (by decide) k_1_41 rfl hnm rfl rfl rfl d_2_1_12 (L' := [(0, .ref q2)]) rfl (fun f3 H3 locs3 hF3 hm3 hP3 hD3 hS3 => ?_)
  have hM3 := gM.tr (gM.rf (f := g0)) hm3
  have hP3 : va_P D cls [(a0, .inr (0, rg 3 f3)), (q2, .inl (ca 0, 3000, .inl f2))] H3 := hP3
  have hD3 : va_D A [(a0, .inr (0, rg 3 f3)), (q2, .inl (ca 0, 3000, .inl f2))] := hD3
  clear hP2 hD2 hS2 hm3
  have hP9 := hP3.sub (ws' := [(a0, .inr (0, rg 3 f3)), (q2, .inl (ca 0, 3000, .inl f2))]) [0, 1] rfl
  have hD9 := hD3.sub (ws' := [(a0, .inr (0, rg 3 f3)), (q2, .inl (ca 0, 3000, .inl f2))]) [0, 1] (by decide) rfl
  refine W.widen (k := 1) (n := 3000) (Nat.le_of_ble_eq_true rfl) (Nat.le_of_ble_eq_true rfl) ?_
  exact W.vret hx hb hr (fun t ht hW => ⟨⟨(f3, q2, f2), rfl, ⟨hM3.mono (by decide), hF3.sub [0] rfl, hF2.sub [] rfl⟩, by rw [ht]; exact hP9, va_K.moved hW.alike hK, hD9⟩, hS3.F ht⟩) hS3.2.2 d_2_1_15
abbrev Q_ByteRow_init_1 (D : va_G) (ca : Nat → ClassId) (a0 : Nat) (g0 : Nat → Value) (A : Nat → Prop) : Array Value → State → Outcome → State → Prop := va_Qv (S := (Nat → Value) × (Nat) × (Nat → Int32)) (fun (u : (Nat → Value) × (Nat) × (Nat → Int32)) => gM g0 u.1 [0] ∧ gF u.1 [(0, .ref u.2.1)] ∧ gF u.2.2 []) (fun u => gB D ca A [(a0, .inr (0, rg 3 u.1)), (u.2.1, .inl (ca 0, 20480, .inl u.2.2))]) A
set_option maxHeartbeats 8000000 in
set_option maxRecDepth 100000 in
theorem c_ByteRow_init_1 (l : Launch) (D : va_G) (ca : Nat → ClassId) (ad av : Nat → Nat) (sz : Nat) (a0 : Nat) (g0 : Nat → Value) (hp0 : gF g0 []) : Met l ({ cls := "StaveHouse$ByteRow", name := "<init>", desc := "(I)V" } : Jvm.MethodName) (Cond.code ({ cls := "StaveHouse$ByteRow", name := "<init>", desc := "(I)V" } : Jvm.MethodName) prog_2_method_1_code 2 (Option.none : Option Jvm.ClassFile.FieldType) :: wAll) ({ frames := 1, cells := 1, slots := 20480, locals := 14 } : Room) (va_Pc [.ref a0, .int 20480] (gPre D ca ad av [(a0, .inr (0, rg 3 g0))] sz)) (Q_ByteRow_init_1 D ca a0 g0 (va_A [(a0, .inr (0, rg 3 g0))] sz)) 1 20480 (va_A [(a0, .inr (0, rg 3 g0))] sz) := by
  refine gMet (Qc := Q_ByteRow_init_1 D ca a0 g0) (lv := [(0, .ref a0), (1, .int 20480)]) (by decide) (Nat.le_of_ble_eq_true rfl) rfl (fun A p e s m below meth c ls hx hb hr hml hown hts hlk hnm hl hP hK hD hS hA hX => ?_)
  have hown : s.vm.findClass "StaveHouse$ByteRow" = some m.cls := hown
  have hnm : meth.name = "<init>" := hnm
  refine lv_aload_n hx hb d_2_1_0 rfl (lv_at hl 0 rfl) ?_
  refine W.objInit hx hb hown (hts _ k_1_37) (hts _ k_1_30) (hts _ k_1_31) rfl (by rw [hml]; exact hl.1) rfl d_2_1_1 (Nat.le_of_ble_eq_true rfl) (Nat.le_of_ble_eq_true rfl) ?_
  refine W.eq (g2 := F0 m 4 ls []) rfl ?_
  refine lv_aload_n hx hb d_2_1_4 rfl (lv_at hl 0 rfl) ?_
  refine lv_iload_n hx hb d_2_1_5 rfl (lv_at hl 1 rfl) ?_
  refine lv_iconst (v := 1) hx hb d_2_1_6 (by decide) ?_
  refine va_mmax hx hb (by rw [hml]; exact hl.1.symm) hown (hts _ k_1_38) (hts _ k_1_39) (hts _ k_1_3) (hts _ k_1_40) (Nat.le_of_ble_eq_true rfl) (Nat.le_of_ble_eq_true rfl) (Nat.le_of_ble_eq_true rfl) (Nat.le_of_ble_eq_true rfl) d_2_1_7 ?_
  refine lv_topi (fun y1 ey1 => ?_)
  obtain rfl : y1 = 20480 := ey1.trans (by decide)
  refine gnewa (atype := .int) hx hb hts (ty := .int) rfl k_1_57 hK 0 rfl (fun _ _ => gu_int) hP hD hS hA (a0 := (20480, .inl (fun _ => 0))) (fun _ => rfl) (by decide) (N' := 20480) (by decide) (Nat.le_of_ble_eq_true rfl) (Nat.le_of_ble_eq_true rfl) (Nat.le_of_ble_eq_true rfl) d_2_1_10 (fun q2 H2 hP2 hD2 hS2 => ?_)
  obtain ⟨f2, hF2, hP2, hD2⟩ : ∃ f : Nat → Int32, gF f [] ∧ va_P D cls ([(a0, .inr (0, rg 3 g0))] ++ [(q2, .inl (ca 0, 20480, .inl f))]) H2 ∧ va_D A ([(a0, .inr (0, rg 3 g0))] ++ [(q2, .inl (ca 0, 20480, .inl f))]) := ⟨_, gF_nil, hP2, hD2⟩
  have hP2 : va_P D cls [(a0, .inr (0, rg 3 g0)), (q2, .inl (ca 0, 20480, .inl f2))] H2 := hP2
  have hD2 : va_D A [(a0, .inr (0, rg 3 g0)), (q2, .inl (ca 0, 20480, .inl f2))] := hD2
  refine W.widen (k := 1) (n := 20480) (Nat.le_of_ble_eq_true rfl) (Nat.le_of_ble_eq_true rfl) ?_
  refine gputF hx hb hts inW_0 tyX0 tyX0_ok nmX0 hown hK hP2 hD2 hS2 0 rfl rfl hp0 0 (by decide) k_1_41 rfl hnm rfl rfl rfl d_2_1_12 (L' := [(0, .ref q2)]) rfl (fun f3 H3 locs3 hF3 hm3 hP3 hD3 hS3 => ?_)
  have hM3 := gM.tr (gM.rf (f := g0)) hm3
  have hP3 : va_P D cls [(a0, .inr (0, rg 3 f3)), (q2, .inl (ca 0, 20480, .inl f2))] H3 := hP3
  have hD3 : va_D A [(a0, .inr (0, rg 3 f3)), (q2, .inl (ca 0, 20480, .inl f2))] := hD3
  clear hP2 hD2 hS2 hm3
  have hP9 := hP3.sub (ws' := [(a0, .inr (0, rg 3 f3)), (q2, .inl (ca 0, 20480, .inl f2))]) [0, 1] rfl
  have hD9 := hD3.sub (ws' := [(a0, .inr (0, rg 3 f3)), (q2, .inl (ca 0, 20480, .inl f2))]) [0, 1] (by decide) rfl
  refine W.widen (k := 1) (n := 20480) (Nat.le_of_ble_eq_true rfl) (Nat.le_of_ble_eq_true rfl) ?_
  exact W.vret hx hb hr (fun t ht hW => ⟨⟨(f3, q2, f2), rfl, ⟨hM3.mono (by decide), hF3.sub [0] rfl, hF2.sub [] rfl⟩, by rw [ht]; exact hP9, va_K.moved hW.alike hK, hD9⟩, hS3.F ht⟩) hS3.2.2 d_2_1_15
abbrev Q_Tokens_init_0 (D : va_G) (ca : Nat → ClassId) (a0 : Nat) (g0 : Nat → Value) (A : Nat → Prop) : Array Value → State → Outcome → State → Prop := va_Qv (S := (Nat → Value) × (Nat) × (Nat → Int64) × (Nat) × (Nat → Int32) × (Nat) × (Nat → Int32)) (fun (u : (Nat → Value) × (Nat) × (Nat → Int64) × (Nat) × (Nat → Int32) × (Nat) × (Nat → Int32)) => gM g0 u.1 [7, 6, 5] ∧ gF u.1 [(7, .ref u.2.1), (6, .ref u.2.2.2.1), (5, .ref u.2.2.2.2.2.1)] ∧ gF u.2.2.1 [] ∧ gF u.2.2.2.2.1 [] ∧ gF u.2.2.2.2.2.2 []) (fun u => gB D ca A [(a0, .inr (10, rg 9 u.1)), (u.2.1, .inl (ca 1, 3001, .inr (.inl u.2.2.1))), (u.2.2.2.1, .inl (ca 0, 3001, .inl u.2.2.2.2.1)), (u.2.2.2.2.2.1, .inl (ca 0, 3001, .inl u.2.2.2.2.2.2))]) A
set_option maxHeartbeats 8000000 in
set_option maxRecDepth 100000 in
theorem c_Tokens_init_0 (l : Launch) (D : va_G) (ca : Nat → ClassId) (ad av : Nat → Nat) (sz : Nat) (a0 : Nat) (g0 : Nat → Value) (hp0 : gF g0 []) : Met l ({ cls := "StaveHouse$Tokens", name := "<init>", desc := "()V" } : Jvm.MethodName) (Cond.code ({ cls := "StaveHouse$Tokens", name := "<init>", desc := "()V" } : Jvm.MethodName) prog_12_method_1_code 1 (Option.none : Option Jvm.ClassFile.FieldType) :: wAll) ({ frames := 1, cells := 3, slots := 9003, locals := 12 } : Room) (va_Pc [.ref a0] (gPre D ca ad av [(a0, .inr (10, rg 9 g0))] sz)) (Q_Tokens_init_0 D ca a0 g0 (va_A [(a0, .inr (10, rg 9 g0))] sz)) 3 9003 (va_A [(a0, .inr (10, rg 9 g0))] sz) := by
  refine gMet (Qc := Q_Tokens_init_0 D ca a0 g0) (lv := [(0, .ref a0)]) (by decide) (Nat.le_of_ble_eq_true rfl) rfl (fun A p e s m below meth c ls hx hb hr hml hown hts hlk hnm hl hP hK hD hS hA hX => ?_)
  have hown : s.vm.findClass "StaveHouse$Tokens" = some m.cls := hown
  have hnm : meth.name = "<init>" := hnm
  refine lv_aload_n hx hb d_12_1_0 rfl (lv_at hl 0 rfl) ?_
  refine W.objInit hx hb hown (hts _ k_1_71) (hts _ k_1_30) (hts _ k_1_31) rfl (by rw [hml]; exact hl.1) rfl d_12_1_1 (Nat.le_of_ble_eq_true rfl) (Nat.le_of_ble_eq_true rfl) ?_
  refine W.eq (g2 := F0 m 4 ls []) rfl ?_
  refine lv_aload_n hx hb d_12_1_4 rfl (lv_at hl 0 rfl) ?_
  refine lv_sipush (v := 3001) hx hb d_12_1_5 (by decide) ?_
  refine gnewa (atype := .int) hx hb hts (ty := .int) rfl k_1_57 hK 0 rfl (fun _ _ => gu_int) hP hD hS hA (a0 := (3001, .inl (fun _ => 0))) (fun _ => rfl) (by decide) (N' := 3001) (by decide) (Nat.le_of_ble_eq_true rfl) (Nat.le_of_ble_eq_true rfl) (Nat.le_of_ble_eq_true rfl) d_12_1_8 (fun q1 H1 hP1 hD1 hS1 => ?_)
  obtain ⟨f1, hF1, hP1, hD1⟩ : ∃ f : Nat → Int32, gF f [] ∧ va_P D cls ([(a0, .inr (10, rg 9 g0))] ++ [(q1, .inl (ca 0, 3001, .inl f))]) H1 ∧ va_D A ([(a0, .inr (10, rg 9 g0))] ++ [(q1, .inl (ca 0, 3001, .inl f))]) := ⟨_, gF_nil, hP1, hD1⟩
  have hP1 : va_P D cls [(a0, .inr (10, rg 9 g0)), (q1, .inl (ca 0, 3001, .inl f1))] H1 := hP1
  have hD1 : va_D A [(a0, .inr (10, rg 9 g0)), (q1, .inl (ca 0, 3001, .inl f1))] := hD1
  refine W.widen (k := 1) (n := 3001) (Nat.le_of_ble_eq_true rfl) (Nat.le_of_ble_eq_true rfl) ?_
  refine gputF hx hb hts inW_10 tyX10 tyX10_ok nmX10 hown hK hP1 hD1 hS1 0 rfl rfl hp0 5 (by decide) k_1_82 rfl hnm rfl rfl rfl d_12_1_10 (L' := [(5, .ref q1)]) rfl (fun f2 H2 locs2 hF2 hm2 hP2 hD2 hS2 => ?_)
  have hM2 := gM.tr (gM.rf (f := g0)) hm2
  have hP2 : va_P D cls [(a0, .inr (10, rg 9 f2)), (q1, .inl (ca 0, 3001, .inl f1))] H2 := hP2
  have hD2 : va_D A [(a0, .inr (10, rg 9 f2)), (q1, .inl (ca 0, 3001, .inl f1))] := hD2
  clear hP1 hD1 hS1 hm2
  refine lv_aload_n hx hb d_12_1_13 rfl (lv_at hl 0 rfl) ?_
  refine lv_sipush (v := 3001) hx hb d_12_1_14 (by decide) ?_
  refine gnewa (atype := .int) hx hb hts (ty := .int) rfl k_1_57 hK 0 rfl (fun _ _ => gu_int) hP2 hD2 hS2 hA (a0 := (3001, .inl (fun _ => 0))) (fun _ => rfl) (by decide) (N' := 3001) (by decide) (Nat.le_of_ble_eq_true rfl) (Nat.le_of_ble_eq_true rfl) (Nat.le_of_ble_eq_true rfl) d_12_1_17 (fun q3 H3 hP3 hD3 hS3 => ?_)
  obtain ⟨f3, hF3, hP3, hD3⟩ : ∃ f : Nat → Int32, gF f [] ∧ va_P D cls ([(a0, .inr (10, rg 9 f2)), (q1, .inl (ca 0, 3001, .inl f1))] ++ [(q3, .inl (ca 0, 3001, .inl f))]) H3 ∧ va_D A ([(a0, .inr (10, rg 9 f2)), (q1, .inl (ca 0, 3001, .inl f1))] ++ [(q3, .inl (ca 0, 3001, .inl f))]) := ⟨_, gF_nil, hP3, hD3⟩
  have hP3 : va_P D cls [(a0, .inr (10, rg 9 f2)), (q1, .inl (ca 0, 3001, .inl f1)), (q3, .inl (ca 0, 3001, .inl f3))] H3 := hP3
  have hD3 : va_D A [(a0, .inr (10, rg 9 f2)), (q1, .inl (ca 0, 3001, .inl f1)), (q3, .inl (ca 0, 3001, .inl f3))] := hD3
  refine W.widen (k := 2) (n := 6002) (Nat.le_of_ble_eq_true rfl) (Nat.le_of_ble_eq_true rfl) ?_
  refine gputF hx hb hts inW_10 tyX10 tyX10_ok nmX10 hown hK hP3 hD3 hS3 0 rfl rfl hF2 6 (by decide) k_1_83 rfl hnm rfl rfl rfl d_12_1_19 (L' := [(6, .ref q3), (5, .ref q1)]) rfl (fun f4 H4 locs4 hF4 hm4 hP4 hD4 hS4 => ?_)
  have hM4 := gM.tr hM2 hm4
  have hP4 : va_P D cls [(a0, .inr (10, rg 9 f4)), (q1, .inl (ca 0, 3001, .inl f1)), (q3, .inl (ca 0, 3001, .inl f3))] H4 := hP4
  have hD4 : va_D A [(a0, .inr (10, rg 9 f4)), (q1, .inl (ca 0, 3001, .inl f1)), (q3, .inl (ca 0, 3001, .inl f3))] := hD4
  clear hP3 hD3 hS3 hF2 hM2 hm4
  refine lv_aload_n hx hb d_12_1_22 rfl (lv_at hl 0 rfl) ?_
  refine lv_sipush (v := 3001) hx hb d_12_1_23 (by decide) ?_
  refine gnewa (atype := .long) hx hb hts (ty := .long) rfl k_1_105 hK 1 rfl (fun _ _ => gu_long) hP4 hD4 hS4 hA (a0 := (3001, .inr (.inl (fun _ => 0)))) (fun _ => rfl) (by decide) (N' := 3001) (by decide) (Nat.le_of_ble_eq_true rfl) (Nat.le_of_ble_eq_true rfl) (Nat.le_of_ble_eq_true rfl) d_12_1_26 (fun q5 H5 hP5 hD5 hS5 => ?_)
  obtain ⟨f5, hF5, hP5, hD5⟩ : ∃ f : Nat → Int64, gF f [] ∧ va_P D cls ([(a0, .inr (10, rg 9 f4)), (q1, .inl (ca 0, 3001, .inl f1)), (q3, .inl (ca 0, 3001, .inl f3))] ++ [(q5, .inl (ca 1, 3001, .inr (.inl f)))]) H5 ∧ va_D A ([(a0, .inr (10, rg 9 f4)), (q1, .inl (ca 0, 3001, .inl f1)), (q3, .inl (ca 0, 3001, .inl f3))] ++ [(q5, .inl (ca 1, 3001, .inr (.inl f)))]) := ⟨_, gF_nil, hP5, hD5⟩
  have hP5 : va_P D cls [(a0, .inr (10, rg 9 f4)), (q1, .inl (ca 0, 3001, .inl f1)), (q3, .inl (ca 0, 3001, .inl f3)), (q5, .inl (ca 1, 3001, .inr (.inl f5)))] H5 := hP5
  have hD5 : va_D A [(a0, .inr (10, rg 9 f4)), (q1, .inl (ca 0, 3001, .inl f1)), (q3, .inl (ca 0, 3001, .inl f3)), (q5, .inl (ca 1, 3001, .inr (.inl f5)))] := hD5
  refine W.widen (k := 3) (n := 9003) (Nat.le_of_ble_eq_true rfl) (Nat.le_of_ble_eq_true rfl) ?_
  refine gputF hx hb hts inW_10 tyX10 tyX10_ok nmX10 hown hK hP5 hD5 hS5 0 rfl rfl hF4 7 (by decide) k_1_84 rfl hnm rfl rfl rfl d_12_1_28 (L' := [(7, .ref q5), (6, .ref q3), (5, .ref q1)]) rfl (fun f6 H6 locs6 hF6 hm6 hP6 hD6 hS6 => ?_)
  have hM6 := gM.tr hM4 hm6
  have hP6 : va_P D cls [(a0, .inr (10, rg 9 f6)), (q1, .inl (ca 0, 3001, .inl f1)), (q3, .inl (ca 0, 3001, .inl f3)), (q5, .inl (ca 1, 3001, .inr (.inl f5)))] H6 := hP6
  have hD6 : va_D A [(a0, .inr (10, rg 9 f6)), (q1, .inl (ca 0, 3001, .inl f1)), (q3, .inl (ca 0, 3001, .inl f3)), (q5, .inl (ca 1, 3001, .inr (.inl f5)))] := hD6
  clear hP5 hD5 hS5 hF4 hM4 hm6
  have hP9 := hP6.sub (ws' := [(a0, .inr (10, rg 9 f6)), (q5, .inl (ca 1, 3001, .inr (.inl f5))), (q3, .inl (ca 0, 3001, .inl f3)), (q1, .inl (ca 0, 3001, .inl f1))]) [0, 3, 2, 1] rfl
  have hD9 := hD6.sub (ws' := [(a0, .inr (10, rg 9 f6)), (q5, .inl (ca 1, 3001, .inr (.inl f5))), (q3, .inl (ca 0, 3001, .inl f3)), (q1, .inl (ca 0, 3001, .inl f1))]) [0, 3, 2, 1] (by decide) rfl
  refine W.widen (k := 3) (n := 9003) (Nat.le_of_ble_eq_true rfl) (Nat.le_of_ble_eq_true rfl) ?_
  exact W.vret hx hb hr (fun t ht hW => ⟨⟨(f6, q5, f5, q3, f3, q1, f1), rfl, ⟨hM6.mono (by decide), hF6.sub [0, 1, 2] rfl, hF5.sub [] rfl, hF3.sub [] rfl, hF1.sub [] rfl⟩, by rw [ht]; exact hP9, va_K.moved hW.alike hK, hD9⟩, hS6.F ht⟩) hS6.2.2 d_12_1_31
abbrev Q_Parser_init_0 (D : va_G) (ca : Nat → ClassId) (a0 : Nat) (g0 : Nat → Value) (A : Nat → Prop) : Array Value → State → Outcome → State → Prop := va_Qv (S := (Nat → Value) × (Nat) × (Nat → Value) × (Nat) × (Nat → Int64) × (Nat) × (Nat → Int32) × (Nat) × (Nat → Int32)) (fun (u : (Nat → Value) × (Nat) × (Nat → Value) × (Nat) × (Nat → Int64) × (Nat) × (Nat → Int32) × (Nat) × (Nat → Int32)) => gM g0 u.1 [13, 12, 11, 10, 9, 8, 7, 6, 5, 4, 3, 2, 1, 0] ∧ gF u.1 [(11, .ref u.2.1)] ∧ gF u.2.2.1 [(7, .ref u.2.2.2.1), (6, .ref u.2.2.2.2.2.1), (5, .ref u.2.2.2.2.2.2.2.1), (0, .int 0), (1, .int 0), (2, .long 0), (8, .int 0)] ∧ gF u.2.2.2.2.1 [] ∧ gF u.2.2.2.2.2.2.1 [] ∧ gF u.2.2.2.2.2.2.2.2 []) (fun u => gB D ca A [(a0, .inr (3, rg 22 u.1)), (u.2.1, .inr (10, rg 9 u.2.2.1)), (u.2.2.2.1, .inl (ca 1, 3001, .inr (.inl u.2.2.2.2.1))), (u.2.2.2.2.2.1, .inl (ca 0, 3001, .inl u.2.2.2.2.2.2.1)), (u.2.2.2.2.2.2.2.1, .inl (ca 0, 3001, .inl u.2.2.2.2.2.2.2.2))]) A
set_option maxHeartbeats 8000000 in
set_option maxRecDepth 100000 in
theorem c_Parser_init_0 (l : Launch) (D : va_G) (ca : Nat → ClassId) (ad av : Nat → Nat) (sz : Nat) (a0 : Nat) (g0 : Nat → Value) (hp0 : gF g0 []) : Met l ({ cls := "StaveHouse$Parser", name := "<init>", desc := "()V" } : Jvm.MethodName) (Cond.code ({ cls := "StaveHouse$Parser", name := "<init>", desc := "()V" } : Jvm.MethodName) prog_5_method_1_code 1 (Option.none : Option Jvm.ClassFile.FieldType) :: wAll) ({ frames := 2, cells := 17, slots := 37524, locals := 32 } : Room) (va_Pc [.ref a0] (gPre D ca ad av [(a0, .inr (3, rg 22 g0))] sz)) (Q_Parser_init_0 D ca a0 g0 (va_A [(a0, .inr (3, rg 22 g0))] sz)) 17 37524 (va_A [(a0, .inr (3, rg 22 g0))] sz) := by
  refine gMet (Qc := Q_Parser_init_0 D ca a0 g0) (lv := [(0, .ref a0)]) (by decide) (Nat.le_of_ble_eq_true rfl) rfl (fun A p e s m below meth c ls hx hb hr hml hown hts hlk hnm hl hP hK hD hS hA hX => ?_)
  have hown : s.vm.findClass "StaveHouse$Parser" = some m.cls := hown
  have hnm : meth.name = "<init>" := hnm
  refine lv_aload_n hx hb d_5_1_0 rfl (lv_at hl 0 rfl) ?_
  refine W.objInit hx hb hown (hts _ k_1_65) (hts _ k_1_30) (hts _ k_1_31) rfl (by rw [hml]; exact hl.1) rfl d_5_1_1 (Nat.le_of_ble_eq_true rfl) (Nat.le_of_ble_eq_true rfl) ?_
  refine W.eq (g2 := F0 m 4 ls []) rfl ?_
  refine lv_aload_n hx hb d_5_1_4 rfl (lv_at hl 0 rfl) ?_
  refine lv_sipush (v := 3000) hx hb d_5_1_5 (by decide) ?_
  refine gnewaX (atype := .int) hx hb hts k_1_57 hP hS (by decide) (N' := 3000) (by decide) (Nat.le_of_ble_eq_true rfl) (Nat.le_of_ble_eq_true rfl) (Nat.le_of_ble_eq_true rfl) d_5_1_8 (fun q1 H1 hP1 hS1 => ?_)
  refine W.widen (k := 1) (n := 3000) (Nat.le_of_ble_eq_true rfl) (Nat.le_of_ble_eq_true rfl) ?_
  refine gputFX hx hb hts inW_3 tyX3 tyX3_ok nmX3 hown hK hP1 hD hS1 0 rfl rfl hp0 0 (by decide) k_1_106 rfl hnm rfl rfl rfl d_5_1_10 (L' := []) rfl (fun f2 H2 locs2 hF2 hm2 hP2 hD2 hS2 => ?_)
  have hM2 := gM.tr (gM.rf (f := g0)) hm2
  have hP2 : va_P D cls [(a0, .inr (3, rg 22 f2))] H2 := hP2
  have hD2 : va_D A [(a0, .inr (3, rg 22 f2))] := hD2
  clear hP1 hS1 hm2
  refine lv_aload_n hx hb d_5_1_13 rfl (lv_at hl 0 rfl) ?_
  refine lv_sipush (v := 3000) hx hb d_5_1_14 (by decide) ?_
  refine gnewaX (atype := .int) hx hb hts k_1_57 hP2 hS2 (by decide) (N' := 3000) (by decide) (Nat.le_of_ble_eq_true rfl) (Nat.le_of_ble_eq_true rfl) (Nat.le_of_ble_eq_true rfl) d_5_1_17 (fun q3 H3 hP3 hS3 => ?_)
  clear hP2 hS2
  refine W.widen (k := 2) (n := 6000) (Nat.le_of_ble_eq_true rfl) (Nat.le_of_ble_eq_true rfl) ?_
  refine gputFX hx hb hts inW_3 tyX3 tyX3_ok nmX3 hown hK hP3 hD2 hS3 0 rfl rfl hF2 1 (by decide) k_1_108 rfl hnm rfl rfl rfl d_5_1_19 (L' := []) rfl (fun f4 H4 locs4 hF4 hm4 hP4 hD4 hS4 => ?_)
  have hM4 := gM.tr hM2 hm4
  have hP4 : va_P D cls [(a0, .inr (3, rg 22 f4))] H4 := hP4
  have hD4 : va_D A [(a0, .inr (3, rg 22 f4))] := hD4
  clear hP3 hD2 hS3 hF2 hM2 hm4
  refine lv_aload_n hx hb d_5_1_22 rfl (lv_at hl 0 rfl) ?_
  refine lv_sipush (v := 3000) hx hb d_5_1_23 (by decide) ?_
  refine gnewaX (atype := .int) hx hb hts k_1_57 hP4 hS4 (by decide) (N' := 3000) (by decide) (Nat.le_of_ble_eq_true rfl) (Nat.le_of_ble_eq_true rfl) (Nat.le_of_ble_eq_true rfl) d_5_1_26 (fun q5 H5 hP5 hS5 => ?_)
  clear hP4 hS4
  refine W.widen (k := 3) (n := 9000) (Nat.le_of_ble_eq_true rfl) (Nat.le_of_ble_eq_true rfl) ?_
  refine gputFX hx hb hts inW_3 tyX3 tyX3_ok nmX3 hown hK hP5 hD4 hS5 0 rfl rfl hF4 2 (by decide) k_1_110 rfl hnm rfl rfl rfl d_5_1_28 (L' := []) rfl (fun f6 H6 locs6 hF6 hm6 hP6 hD6 hS6 => ?_)
  have hM6 := gM.tr hM4 hm6
  have hP6 : va_P D cls [(a0, .inr (3, rg 22 f6))] H6 := hP6
  have hD6 : va_D A [(a0, .inr (3, rg 22 f6))] := hD6
  clear hP5 hD4 hS5 hF4 hM4 hm6
  refine lv_aload_n hx hb d_5_1_31 rfl (lv_at hl 0 rfl) ?_
  refine lv_sipush (v := 3000) hx hb d_5_1_32 (by decide) ?_
  refine gnewaX (atype := .int) hx hb hts k_1_57 hP6 hS6 (by decide) (N' := 3000) (by decide) (Nat.le_of_ble_eq_true rfl) (Nat.le_of_ble_eq_true rfl) (Nat.le_of_ble_eq_true rfl) d_5_1_35 (fun q7 H7 hP7 hS7 => ?_)
  clear hP6 hS6
  refine W.widen (k := 4) (n := 12000) (Nat.le_of_ble_eq_true rfl) (Nat.le_of_ble_eq_true rfl) ?_
  refine gputFX hx hb hts inW_3 tyX3 tyX3_ok nmX3 hown hK hP7 hD6 hS7 0 rfl rfl hF6 3 (by decide) k_1_112 rfl hnm rfl rfl rfl d_5_1_37 (L' := []) rfl (fun f8 H8 locs8 hF8 hm8 hP8 hD8 hS8 => ?_)
  have hM8 := gM.tr hM6 hm8
  have hP8 : va_P D cls [(a0, .inr (3, rg 22 f8))] H8 := hP8
  have hD8 : va_D A [(a0, .inr (3, rg 22 f8))] := hD8
  clear hP7 hD6 hS7 hF6 hM6 hm8
  refine lv_aload_n hx hb d_5_1_40 rfl (lv_at hl 0 rfl) ?_
  refine lv_sipush (v := 3000) hx hb d_5_1_41 (by decide) ?_
  refine gnewaX (atype := .int) hx hb hts k_1_57 hP8 hS8 (by decide) (N' := 3000) (by decide) (Nat.le_of_ble_eq_true rfl) (Nat.le_of_ble_eq_true rfl) (Nat.le_of_ble_eq_true rfl) d_5_1_44 (fun q9 H9 hP9 hS9 => ?_)
  clear hP8 hS8
  refine W.widen (k := 5) (n := 15000) (Nat.le_of_ble_eq_true rfl) (Nat.le_of_ble_eq_true rfl) ?_
  refine gputFX hx hb hts inW_3 tyX3 tyX3_ok nmX3 hown hK hP9 hD8 hS9 0 rfl rfl hF8 4 (by decide) k_1_114 rfl hnm rfl rfl rfl d_5_1_46 (L' := []) rfl (fun f10 H10 locs10 hF10 hm10 hP10 hD10 hS10 => ?_)
  have hM10 := gM.tr hM8 hm10
  have hP10 : va_P D cls [(a0, .inr (3, rg 22 f10))] H10 := hP10
  have hD10 : va_D A [(a0, .inr (3, rg 22 f10))] := hD10
  clear hP9 hD8 hS9 hF8 hM8 hm10
  refine lv_aload_n hx hb d_5_1_49 rfl (lv_at hl 0 rfl) ?_
  refine lv_sipush (v := 3000) hx hb d_5_1_50 (by decide) ?_
  refine gnewaX (atype := .int) hx hb hts k_1_57 hP10 hS10 (by decide) (N' := 3000) (by decide) (Nat.le_of_ble_eq_true rfl) (Nat.le_of_ble_eq_true rfl) (Nat.le_of_ble_eq_true rfl) d_5_1_53 (fun q11 H11 hP11 hS11 => ?_)
  clear hP10 hS10
  refine W.widen (k := 6) (n := 18000) (Nat.le_of_ble_eq_true rfl) (Nat.le_of_ble_eq_true rfl) ?_
  refine gputFX hx hb hts inW_3 tyX3 tyX3_ok nmX3 hown hK hP11 hD10 hS11 0 rfl rfl hF10 5 (by decide) k_1_116 rfl hnm rfl rfl rfl d_5_1_55 (L' := []) rfl (fun f12 H12 locs12 hF12 hm12 hP12 hD12 hS12 => ?_)
  have hM12 := gM.tr hM10 hm12
  have hP12 : va_P D cls [(a0, .inr (3, rg 22 f12))] H12 := hP12
  have hD12 : va_D A [(a0, .inr (3, rg 22 f12))] := hD12
  clear hP11 hD10 hS11 hF10 hM10 hm12
  refine lv_aload_n hx hb d_5_1_58 rfl (lv_at hl 0 rfl) ?_
  refine lv_sipush (v := 3000) hx hb d_5_1_59 (by decide) ?_
  refine gnewaX (atype := .int) hx hb hts k_1_57 hP12 hS12 (by decide) (N' := 3000) (by decide) (Nat.le_of_ble_eq_true rfl) (Nat.le_of_ble_eq_true rfl) (Nat.le_of_ble_eq_true rfl) d_5_1_62 (fun q13 H13 hP13 hS13 => ?_)
  clear hP12 hS12
  refine W.widen (k := 7) (n := 21000) (Nat.le_of_ble_eq_true rfl) (Nat.le_of_ble_eq_true rfl) ?_
  refine gputFX hx hb hts inW_3 tyX3 tyX3_ok nmX3 hown hK hP13 hD12 hS13 0 rfl rfl hF12 6 (by decide) k_1_118 rfl hnm rfl rfl rfl d_5_1_64 (L' := []) rfl (fun f14 H14 locs14 hF14 hm14 hP14 hD14 hS14 => ?_)
  have hM14 := gM.tr hM12 hm14
  have hP14 : va_P D cls [(a0, .inr (3, rg 22 f14))] H14 := hP14
  have hD14 : va_D A [(a0, .inr (3, rg 22 f14))] := hD14
  clear hP13 hD12 hS13 hF12 hM12 hm14
  refine lv_aload_n hx hb d_5_1_67 rfl (lv_at hl 0 rfl) ?_
  refine lv_sipush (v := 3000) hx hb d_5_1_68 (by decide) ?_
  refine gnewaX (atype := .int) hx hb hts k_1_57 hP14 hS14 (by decide) (N' := 3000) (by decide) (Nat.le_of_ble_eq_true rfl) (Nat.le_of_ble_eq_true rfl) (Nat.le_of_ble_eq_true rfl) d_5_1_71 (fun q15 H15 hP15 hS15 => ?_)
  clear hP14 hS14
  refine W.widen (k := 8) (n := 24000) (Nat.le_of_ble_eq_true rfl) (Nat.le_of_ble_eq_true rfl) ?_
  refine gputFX hx hb hts inW_3 tyX3 tyX3_ok nmX3 hown hK hP15 hD14 hS15 0 rfl rfl hF14 7 (by decide) k_1_120 rfl hnm rfl rfl rfl d_5_1_73 (L' := []) rfl (fun f16 H16 locs16 hF16 hm16 hP16 hD16 hS16 => ?_)
  have hM16 := gM.tr hM14 hm16
  have hP16 : va_P D cls [(a0, .inr (3, rg 22 f16))] H16 := hP16
  have hD16 : va_D A [(a0, .inr (3, rg 22 f16))] := hD16
  clear hP15 hD14 hS15 hF14 hM14 hm16
  refine lv_aload_n hx hb d_5_1_76 rfl (lv_at hl 0 rfl) ?_
  refine lv_sipush (v := 1500) hx hb d_5_1_77 (by decide) ?_
  refine gnewaX (atype := .int) hx hb hts k_1_57 hP16 hS16 (by decide) (N' := 1500) (by decide) (Nat.le_of_ble_eq_true rfl) (Nat.le_of_ble_eq_true rfl) (Nat.le_of_ble_eq_true rfl) d_5_1_80 (fun q17 H17 hP17 hS17 => ?_)
  clear hP16 hS16
  refine W.widen (k := 9) (n := 25500) (Nat.le_of_ble_eq_true rfl) (Nat.le_of_ble_eq_true rfl) ?_
  refine gputFX hx hb hts inW_3 tyX3 tyX3_ok nmX3 hown hK hP17 hD16 hS17 0 rfl rfl hF16 8 (by decide) k_1_122 rfl hnm rfl rfl rfl d_5_1_82 (L' := []) rfl (fun f18 H18 locs18 hF18 hm18 hP18 hD18 hS18 => ?_)
  have hM18 := gM.tr hM16 hm18
  have hP18 : va_P D cls [(a0, .inr (3, rg 22 f18))] H18 := hP18
  have hD18 : va_D A [(a0, .inr (3, rg 22 f18))] := hD18
  clear hP17 hD16 hS17 hF16 hM16 hm18
  refine lv_aload_n hx hb d_5_1_85 rfl (lv_at hl 0 rfl) ?_
  refine lv_sipush (v := 1500) hx hb d_5_1_86 (by decide) ?_
  refine gnewaX (atype := .int) hx hb hts k_1_57 hP18 hS18 (by decide) (N' := 1500) (by decide) (Nat.le_of_ble_eq_true rfl) (Nat.le_of_ble_eq_true rfl) (Nat.le_of_ble_eq_true rfl) d_5_1_89 (fun q19 H19 hP19 hS19 => ?_)
  clear hP18 hS18
  refine W.widen (k := 10) (n := 27000) (Nat.le_of_ble_eq_true rfl) (Nat.le_of_ble_eq_true rfl) ?_
  refine gputFX hx hb hts inW_3 tyX3 tyX3_ok nmX3 hown hK hP19 hD18 hS19 0 rfl rfl hF18 9 (by decide) k_1_124 rfl hnm rfl rfl rfl d_5_1_91 (L' := []) rfl (fun f20 H20 locs20 hF20 hm20 hP20 hD20 hS20 => ?_)
  have hM20 := gM.tr hM18 hm20
  have hP20 : va_P D cls [(a0, .inr (3, rg 22 f20))] H20 := hP20
  have hD20 : va_D A [(a0, .inr (3, rg 22 f20))] := hD20
  clear hP19 hD18 hS19 hF18 hM18 hm20
  refine lv_aload_n hx hb d_5_1_94 rfl (lv_at hl 0 rfl) ?_
  refine lv_sipush (v := 1500) hx hb d_5_1_95 (by decide) ?_
  refine gnewaX (atype := .int) hx hb hts k_1_57 hP20 hS20 (by decide) (N' := 1500) (by decide) (Nat.le_of_ble_eq_true rfl) (Nat.le_of_ble_eq_true rfl) (Nat.le_of_ble_eq_true rfl) d_5_1_98 (fun q21 H21 hP21 hS21 => ?_)
  clear hP20 hS20
  refine W.widen (k := 11) (n := 28500) (Nat.le_of_ble_eq_true rfl) (Nat.le_of_ble_eq_true rfl) ?_
  refine gputFX hx hb hts inW_3 tyX3 tyX3_ok nmX3 hown hK hP21 hD20 hS21 0 rfl rfl hF20 10 (by decide) k_1_126 rfl hnm rfl rfl rfl d_5_1_100 (L' := []) rfl (fun f22 H22 locs22 hF22 hm22 hP22 hD22 hS22 => ?_)
  have hM22 := gM.tr hM20 hm22
  have hP22 : va_P D cls [(a0, .inr (3, rg 22 f22))] H22 := hP22
  have hD22 : va_D A [(a0, .inr (3, rg 22 f22))] := hD22
  clear hP21 hD20 hS21 hF20 hM20 hm22
  refine lv_aload_n hx hb d_5_1_103 rfl (lv_at hl 0 rfl) ?_
  refine gnew (L := [(0, .int 0), (1, .int 0), (2, .long 0), (5, .null), (6, .null), (7, .null), (8, .int 0)]) (C := RX10) (T := TX10) (N := 9) (ci := 10) hx hb hts inW_10 tyX10 tyX10_ok hown k_1_66 k_1_67 k_1_5 hK hP22 hD22 hS22 hA rfl (Nat.le_of_ble_eq_true rfl) (Nat.le_of_ble_eq_true rfl) d_5_1_104 (gF_cons rfl (gF_cons rfl (gF_cons rfl (gF_cons rfl (gF_cons rfl (gF_cons rfl (gF_cons rfl (gF_nil)))))))) (fun f23 q23 H23 hF23 hP23 hD23 hS23 => ?_)
  have hP23 : va_P D cls [(a0, .inr (3, rg 22 f22)), (q23, .inr (10, rg 9 f23))] H23 := hP23
  have hD23 : va_D A [(a0, .inr (3, rg 22 f22)), (q23, .inr (10, rg 9 f23))] := hD23
  refine W.widen (k := 12) (n := 28509) (Nat.le_of_ble_eq_true rfl) (Nat.le_of_ble_eq_true rfl) ?_
  refine lv_dup hx hb d_5_1_107 rfl ?_
  have hFc24 := va_free (wc := [(q23, .inr (10, rg 9 f23))]) hD23 hS23 hA [1] rfl
  refine va_callv (va_runIN (As := []) (rest := [.ref q23, .ref a0]) ⟨hx, hb, hml, hown, hts⟩ (c_Tokens_init_0 l D ca ad av H23.size q23 f23 (hF23.sub [] rfl)) ⟨va_cnB 0 hts (gdC k_1_70) rfl rfl rfl (hX.1 _ (List.mem_of_getElem? (i := 1) rfl)) (hts _ k_1_5) (by decide +kernel) ⟨Nat.le_of_ble_eq_true rfl, Nat.le_of_ble_eq_true rfl⟩, rfl, hts _ k_1_69⟩ (gPS hP23 hD23 hK hS23 hA hX [1] (by decide) rfl [.ref q23]) rfl rfl hl.1 rfl (lv_room (Nat.le_of_ble_eq_true rfl)) d_5_1_108 ⟨Nat.le_of_ble_eq_true rfl, Nat.le_of_ble_eq_true rfl⟩) hS23 (fun q _ h => hFc24 q h) hFc24 (fun u24 t24 H24 locs24 ht24 hvm24 hw24 hB24 hz24 hk24 hS24 => ?_)
  obtain ⟨x24_0, x24_1, x24_2, x24_3, x24_4, x24_5, x24_6⟩ := u24
  try dsimp only at hw24 hB24
  obtain ⟨hw24_0, hw24_1, hw24_2, hw24_3, hw24_4⟩ := hw24
  obtain ⟨hP24, hD24⟩ := gJoin (wr := [(a0, .inr (3, rg 22 f22))]) (w1 := [(q23, .inr (10, rg 9 x24_0)), (x24_1, .inl (ca 1, 3001, .inr (.inl x24_2))), (x24_3, .inl (ca 0, 3001, .inl x24_4)), (x24_5, .inl (ca 0, 3001, .inl x24_6))]) hP23 hD23 [1] [0] rfl rfl (by decide) (by decide) hk24 hFc24 ht24 hB24
  have hF24_0 : gF x24_0 [(7, .ref x24_1), (6, .ref x24_3), (5, .ref x24_5), (0, .int 0), (1, .int 0), (2, .long 0), (8, .int 0)] := gF.upd hF23 hw24_0 hw24_1 rfl
  have hP24 : va_P D cls [(a0, .inr (3, rg 22 f22)), (q23, .inr (10, rg 9 x24_0)), (x24_1, .inl (ca 1, 3001, .inr (.inl x24_2))), (x24_3, .inl (ca 0, 3001, .inl x24_4)), (x24_5, .inl (ca 0, 3001, .inl x24_6))] H24 := hP24
  have hD24 : va_D A [(a0, .inr (3, rg 22 f22)), (q23, .inr (10, rg 9 x24_0)), (x24_1, .inl (ca 1, 3001, .inr (.inl x24_2))), (x24_3, .inl (ca 0, 3001, .inl x24_4)), (x24_5, .inl (ca 0, 3001, .inl x24_6))] := hD24
  refine W.widen (k := 15) (n := 37512) (Nat.le_of_ble_eq_true rfl) (Nat.le_of_ble_eq_true rfl) ?_
  refine gputF hx hb hts inW_3 tyX3 tyX3_ok nmX3 hown hK hP24 hD24 hS24 0 rfl rfl hF22 11 (by decide) k_1_128 rfl hnm rfl rfl rfl d_5_1_111 (L' := [(11, .ref q23)]) rfl (fun f25 H25 locs25 hF25 hm25 hP25 hD25 hS25 => ?_)
  have hM25 := gM.tr hM22 hm25
  have hP25 : va_P D cls [(a0, .inr (3, rg 22 f25)), (q23, .inr (10, rg 9 x24_0)), (x24_1, .inl (ca 1, 3001, .inr (.inl x24_2))), (x24_3, .inl (ca 0, 3001, .inl x24_4)), (x24_5, .inl (ca 0, 3001, .inl x24_6))] H25 := hP25
  have hD25 : va_D A [(a0, .inr (3, rg 22 f25)), (q23, .inr (10, rg 9 x24_0)), (x24_1, .inl (ca 1, 3001, .inr (.inl x24_2))), (x24_3, .inl (ca 0, 3001, .inl x24_4)), (x24_5, .inl (ca 0, 3001, .inl x24_6))] := hD25
  clear hP24 hD24 hS24 hF22 hM22 hm25
  refine lv_aload_n hx hb d_5_1_114 rfl (lv_at hl 0 rfl) ?_
  refine lv_bipush (v := 6) hx hb d_5_1_115 (by decide) ?_
  refine gnewaX (atype := .long) hx hb hts k_1_105 hP25 hS25 (by decide) (N' := 6) (by decide) (Nat.le_of_ble_eq_true rfl) (Nat.le_of_ble_eq_true rfl) (Nat.le_of_ble_eq_true rfl) d_5_1_117 (fun q26 H26 hP26 hS26 => ?_)
  clear hP25 hS25
  refine W.widen (k := 16) (n := 37518) (Nat.le_of_ble_eq_true rfl) (Nat.le_of_ble_eq_true rfl) ?_
  refine gputFX hx hb hts inW_3 tyX3 tyX3_ok nmX3 hown hK hP26 hD25 hS26 0 rfl rfl hF25 12 (by decide) k_1_129 rfl hnm rfl rfl rfl d_5_1_119 (L' := [(11, .ref q23)]) rfl (fun f27 H27 locs27 hF27 hm27 hP27 hD27 hS27 => ?_)
  have hM27 := gM.tr hM25 hm27
  have hP27 : va_P D cls [(a0, .inr (3, rg 22 f27)), (q23, .inr (10, rg 9 x24_0)), (x24_1, .inl (ca 1, 3001, .inr (.inl x24_2))), (x24_3, .inl (ca 0, 3001, .inl x24_4)), (x24_5, .inl (ca 0, 3001, .inl x24_6))] H27 := hP27
  have hD27 : va_D A [(a0, .inr (3, rg 22 f27)), (q23, .inr (10, rg 9 x24_0)), (x24_1, .inl (ca 1, 3001, .inr (.inl x24_2))), (x24_3, .inl (ca 0, 3001, .inl x24_4)), (x24_5, .inl (ca 0, 3001, .inl x24_6))] := hD27
  clear hP26 hD25 hS26 hF25 hM25 hm27
  refine lv_aload_n hx hb d_5_1_122 rfl (lv_at hl 0 rfl) ?_
  refine lv_bipush (v := 6) hx hb d_5_1_123 (by decide) ?_
  refine gnewaX (atype := .int) hx hb hts k_1_57 hP27 hS27 (by decide) (N' := 6) (by decide) (Nat.le_of_ble_eq_true rfl) (Nat.le_of_ble_eq_true rfl) (Nat.le_of_ble_eq_true rfl) d_5_1_125 (fun q28 H28 hP28 hS28 => ?_)
  clear hP27 hS27
  refine W.widen (k := 17) (n := 37524) (Nat.le_of_ble_eq_true rfl) (Nat.le_of_ble_eq_true rfl) ?_
  refine gputFX hx hb hts inW_3 tyX3 tyX3_ok nmX3 hown hK hP28 hD27 hS28 0 rfl rfl hF27 13 (by decide) k_1_130 rfl hnm rfl rfl rfl d_5_1_127 (L' := [(11, .ref q23)]) rfl (fun f29 H29 locs29 hF29 hm29 hP29 hD29 hS29 => ?_)
  have hM29 := gM.tr hM27 hm29
  have hP29 : va_P D cls [(a0, .inr (3, rg 22 f29)), (q23, .inr (10, rg 9 x24_0)), (x24_1, .inl (ca 1, 3001, .inr (.inl x24_2))), (x24_3, .inl (ca 0, 3001, .inl x24_4)), (x24_5, .inl (ca 0, 3001, .inl x24_6))] H29 := hP29
  have hD29 : va_D A [(a0, .inr (3, rg 22 f29)), (q23, .inr (10, rg 9 x24_0)), (x24_1, .inl (ca 1, 3001, .inr (.inl x24_2))), (x24_3, .inl (ca 0, 3001, .inl x24_4)), (x24_5, .inl (ca 0, 3001, .inl x24_6))] := hD29
  clear hP28 hD27 hS28 hF27 hM27 hm29
  have hP9 := hP29.sub (ws' := [(a0, .inr (3, rg 22 f29)), (q23, .inr (10, rg 9 x24_0)), (x24_1, .inl (ca 1, 3001, .inr (.inl x24_2))), (x24_3, .inl (ca 0, 3001, .inl x24_4)), (x24_5, .inl (ca 0, 3001, .inl x24_6))]) [0, 1, 2, 3, 4] rfl
  have hD9 := hD29.sub (ws' := [(a0, .inr (3, rg 22 f29)), (q23, .inr (10, rg 9 x24_0)), (x24_1, .inl (ca 1, 3001, .inr (.inl x24_2))), (x24_3, .inl (ca 0, 3001, .inl x24_4)), (x24_5, .inl (ca 0, 3001, .inl x24_6))]) [0, 1, 2, 3, 4] (by decide) rfl
  refine W.widen (k := 17) (n := 37524) (Nat.le_of_ble_eq_true rfl) (Nat.le_of_ble_eq_true rfl) ?_
  exact W.vret hx hb hr (fun t ht hW => ⟨⟨(f29, q23, x24_0, x24_1, x24_2, x24_3, x24_4, x24_5, x24_6), rfl, ⟨hM29.mono (by decide), hF29.sub [0] rfl, hF24_0.sub [0, 1, 2, 3, 4, 5, 6] rfl, hw24_2.sub [] rfl, hw24_3.sub [] rfl, hw24_4.sub [] rfl⟩, by rw [ht]; exact hP9, va_K.moved hW.alike hK, hD9⟩, hS29.F ht⟩) hS29.2.2 d_5_1_130
abbrev Q_Walker_init_0 (D : va_G) (ca : Nat → ClassId) (a0 : Nat) (g0 : Nat → Value) (A : Nat → Prop) : Array Value → State → Outcome → State → Prop := va_Qv (S := (Nat → Value)) (fun (u : (Nat → Value)) => gM g0 u [17, 16, 15, 14] ∧ gF u []) (fun u => gB D ca A [(a0, .inr (11, rg 19 u))]) A
set_option maxHeartbeats 8000000 in
set_option maxRecDepth 100000 in
theorem c_Walker_init_0 (l : Launch) (D : va_G) (ca : Nat → ClassId) (ad av : Nat → Nat) (sz : Nat) (a0 : Nat) (g0 : Nat → Value) (hp0 : gF g0 []) : Met l ({ cls := "StaveHouse$Walker", name := "<init>", desc := "()V" } : Jvm.MethodName) (Cond.code ({ cls := "StaveHouse$Walker", name := "<init>", desc := "()V" } : Jvm.MethodName) prog_13_method_1_code 1 (Option.none : Option Jvm.ClassFile.FieldType) :: wAll) ({ frames := 1, cells := 4, slots := 196, locals := 12 } : Room) (va_Pc [.ref a0] (gPre D ca ad av [(a0, .inr (11, rg 19 g0))] sz)) (Q_Walker_init_0 D ca a0 g0 (va_A [(a0, .inr (11, rg 19 g0))] sz)) 4 196 (va_A [(a0, .inr (11, rg 19 g0))] sz) := by
  refine gMet (Qc := Q_Walker_init_0 D ca a0 g0) (lv := [(0, .ref a0)]) (by decide) (Nat.le_of_ble_eq_true rfl) rfl (fun A p e s m below meth c ls hx hb hr hml hown hts hlk hnm hl hP hK hD hS hA hX => ?_)
  have hown : s.vm.findClass "StaveHouse$Walker" = some m.cls := hown
  have hnm : meth.name = "<init>" := hnm
  refine lv_aload_n hx hb d_13_1_0 rfl (lv_at hl 0 rfl) ?_
  refine W.objInit hx hb hown (hts _ k_1_189) (hts _ k_1_30) (hts _ k_1_31) rfl (by rw [hml]; exact hl.1) rfl d_13_1_1 (Nat.le_of_ble_eq_true rfl) (Nat.le_of_ble_eq_true rfl) ?_
  refine W.eq (g2 := F0 m 4 ls []) rfl ?_
  refine lv_aload_n hx hb d_13_1_4 rfl (lv_at hl 0 rfl) ?_
  refine lv_iconst (v := 4) hx hb d_13_1_5 (by decide) ?_
  refine gnewaX (atype := .int) hx hb hts k_1_57 hP hS (by decide) (N' := 4) (by decide) (Nat.le_of_ble_eq_true rfl) (Nat.le_of_ble_eq_true rfl) (Nat.le_of_ble_eq_true rfl) d_13_1_6 (fun q1 H1 hP1 hS1 => ?_)
  refine W.widen (k := 1) (n := 4) (Nat.le_of_ble_eq_true rfl) (Nat.le_of_ble_eq_true rfl) ?_
  refine gputFX hx hb hts inW_11 tyX11 tyX11_ok nmX11 hown hK hP1 hD hS1 0 rfl rfl hp0 14 (by decide) k_1_204 rfl hnm rfl rfl rfl d_13_1_8 (L' := []) rfl (fun f2 H2 locs2 hF2 hm2 hP2 hD2 hS2 => ?_)
  have hM2 := gM.tr (gM.rf (f := g0)) hm2
  have hP2 : va_P D cls [(a0, .inr (11, rg 19 f2))] H2 := hP2
  have hD2 : va_D A [(a0, .inr (11, rg 19 f2))] := hD2
  clear hP1 hS1 hm2
  refine lv_aload_n hx hb d_13_1_11 rfl (lv_at hl 0 rfl) ?_
  refine lv_bipush (v := 64) hx hb d_13_1_12 (by decide) ?_
  refine gnewaX (atype := .int) hx hb hts k_1_57 hP2 hS2 (by decide) (N' := 64) (by decide) (Nat.le_of_ble_eq_true rfl) (Nat.le_of_ble_eq_true rfl) (Nat.le_of_ble_eq_true rfl) d_13_1_14 (fun q3 H3 hP3 hS3 => ?_)
  clear hP2 hS2
  refine W.widen (k := 2) (n := 68) (Nat.le_of_ble_eq_true rfl) (Nat.le_of_ble_eq_true rfl) ?_
  refine gputFX hx hb hts inW_11 tyX11 tyX11_ok nmX11 hown hK hP3 hD2 hS3 0 rfl rfl hF2 15 (by decide) k_1_205 rfl hnm rfl rfl rfl d_13_1_16 (L' := []) rfl (fun f4 H4 locs4 hF4 hm4 hP4 hD4 hS4 => ?_)
  have hM4 := gM.tr hM2 hm4
  have hP4 : va_P D cls [(a0, .inr (11, rg 19 f4))] H4 := hP4
  have hD4 : va_D A [(a0, .inr (11, rg 19 f4))] := hD4
  clear hP3 hD2 hS3 hF2 hM2 hm4
  refine lv_aload_n hx hb d_13_1_19 rfl (lv_at hl 0 rfl) ?_
  refine lv_bipush (v := 64) hx hb d_13_1_20 (by decide) ?_
  refine gnewaX (atype := .int) hx hb hts k_1_57 hP4 hS4 (by decide) (N' := 64) (by decide) (Nat.le_of_ble_eq_true rfl) (Nat.le_of_ble_eq_true rfl) (Nat.le_of_ble_eq_true rfl) d_13_1_22 (fun q5 H5 hP5 hS5 => ?_)
  clear hP4 hS4
  refine W.widen (k := 3) (n := 132) (Nat.le_of_ble_eq_true rfl) (Nat.le_of_ble_eq_true rfl) ?_
  refine gputFX hx hb hts inW_11 tyX11 tyX11_ok nmX11 hown hK hP5 hD4 hS5 0 rfl rfl hF4 16 (by decide) k_1_206 rfl hnm rfl rfl rfl d_13_1_24 (L' := []) rfl (fun f6 H6 locs6 hF6 hm6 hP6 hD6 hS6 => ?_)
  have hM6 := gM.tr hM4 hm6
  have hP6 : va_P D cls [(a0, .inr (11, rg 19 f6))] H6 := hP6
  have hD6 : va_D A [(a0, .inr (11, rg 19 f6))] := hD6
  clear hP5 hD4 hS5 hF4 hM4 hm6
  refine lv_aload_n hx hb d_13_1_27 rfl (lv_at hl 0 rfl) ?_
  refine lv_bipush (v := 64) hx hb d_13_1_28 (by decide) ?_
  refine gnewaX (atype := .int) hx hb hts k_1_57 hP6 hS6 (by decide) (N' := 64) (by decide) (Nat.le_of_ble_eq_true rfl) (Nat.le_of_ble_eq_true rfl) (Nat.le_of_ble_eq_true rfl) d_13_1_30 (fun q7 H7 hP7 hS7 => ?_)
  clear hP6 hS6
  refine W.widen (k := 4) (n := 196) (Nat.le_of_ble_eq_true rfl) (Nat.le_of_ble_eq_true rfl) ?_
  refine gputFX hx hb hts inW_11 tyX11 tyX11_ok nmX11 hown hK hP7 hD6 hS7 0 rfl rfl hF6 17 (by decide) k_1_207 rfl hnm rfl rfl rfl d_13_1_32 (L' := []) rfl (fun f8 H8 locs8 hF8 hm8 hP8 hD8 hS8 => ?_)
  have hM8 := gM.tr hM6 hm8
  have hP8 : va_P D cls [(a0, .inr (11, rg 19 f8))] H8 := hP8
  have hD8 : va_D A [(a0, .inr (11, rg 19 f8))] := hD8
  clear hP7 hD6 hS7 hF6 hM6 hm8
  have hP9 := hP8.sub (ws' := [(a0, .inr (11, rg 19 f8))]) [0] rfl
  have hD9 := hD8.sub (ws' := [(a0, .inr (11, rg 19 f8))]) [0] (by decide) rfl
  refine W.widen (k := 4) (n := 196) (Nat.le_of_ble_eq_true rfl) (Nat.le_of_ble_eq_true rfl) ?_
  exact W.vret hx hb hr (fun t ht hW => ⟨⟨(f8), rfl, ⟨hM8.mono (by decide), hF8.sub [] rfl⟩, by rw [ht]; exact hP9, va_K.moved hW.alike hK, hD9⟩, hS8.F ht⟩) hS8.2.2 d_13_1_35
abbrev Q_Event_init_0 (D : va_G) (ca : Nat → ClassId) (a0 : Nat) (g0 : Nat → Value) (A : Nat → Prop) : Array Value → State → Outcome → State → Prop := va_Qv (S := (Nat → Value)) (fun (u : (Nat → Value)) => gM g0 u [13, 12] ∧ gF u []) (fun u => gB D ca A [(a0, .inr (1, rg 14 u))]) A
set_option maxHeartbeats 8000000 in
set_option maxRecDepth 100000 in
theorem c_Event_init_0 (l : Launch) (D : va_G) (ca : Nat → ClassId) (ad av : Nat → Nat) (sz : Nat) (a0 : Nat) (g0 : Nat → Value) (hp0 : gF g0 []) : Met l ({ cls := "StaveHouse$Event", name := "<init>", desc := "()V" } : Jvm.MethodName) (Cond.code ({ cls := "StaveHouse$Event", name := "<init>", desc := "()V" } : Jvm.MethodName) prog_3_method_1_code 1 (Option.none : Option Jvm.ClassFile.FieldType) :: wAll) ({ frames := 1, cells := 2, slots := 12, locals := 12 } : Room) (va_Pc [.ref a0] (gPre D ca ad av [(a0, .inr (1, rg 14 g0))] sz)) (Q_Event_init_0 D ca a0 g0 (va_A [(a0, .inr (1, rg 14 g0))] sz)) 2 12 (va_A [(a0, .inr (1, rg 14 g0))] sz) := by
  refine gMet (Qc := Q_Event_init_0 D ca a0 g0) (lv := [(0, .ref a0)]) (by decide) (Nat.le_of_ble_eq_true rfl) rfl (fun A p e s m below meth c ls hx hb hr hml hown hts hlk hnm hl hP hK hD hS hA hX => ?_)
  have hown : s.vm.findClass "StaveHouse$Event" = some m.cls := hown
  have hnm : meth.name = "<init>" := hnm
  refine lv_aload_n hx hb d_3_1_0 rfl (lv_at hl 0 rfl) ?_
  refine W.objInit hx hb hown (hts _ k_2_19) (hts _ k_1_30) (hts _ k_1_31) rfl (by rw [hml]; exact hl.1) rfl d_3_1_1 (Nat.le_of_ble_eq_true rfl) (Nat.le_of_ble_eq_true rfl) ?_
  refine W.eq (g2 := F0 m 4 ls []) rfl ?_
  refine lv_aload_n hx hb d_3_1_4 rfl (lv_at hl 0 rfl) ?_
  refine lv_bipush (v := 6) hx hb d_3_1_5 (by decide) ?_
  refine gnewaX (atype := .int) hx hb hts k_1_57 hP hS (by decide) (N' := 6) (by decide) (Nat.le_of_ble_eq_true rfl) (Nat.le_of_ble_eq_true rfl) (Nat.le_of_ble_eq_true rfl) d_3_1_7 (fun q1 H1 hP1 hS1 => ?_)
  refine W.widen (k := 1) (n := 6) (Nat.le_of_ble_eq_true rfl) (Nat.le_of_ble_eq_true rfl) ?_
  refine gputFX hx hb hts inW_1 tyX1 tyX1_ok nmX1 hown hK hP1 hD hS1 0 rfl rfl hp0 12 (by decide) k_2_57 rfl hnm rfl rfl rfl d_3_1_9 (L' := []) rfl (fun f2 H2 locs2 hF2 hm2 hP2 hD2 hS2 => ?_)
  have hM2 := gM.tr (gM.rf (f := g0)) hm2
  have hP2 : va_P D cls [(a0, .inr (1, rg 14 f2))] H2 := hP2
  have hD2 : va_D A [(a0, .inr (1, rg 14 f2))] := hD2
  clear hP1 hS1 hm2
  refine lv_aload_n hx hb d_3_1_12 rfl (lv_at hl 0 rfl) ?_
  refine lv_bipush (v := 6) hx hb d_3_1_13 (by decide) ?_
  refine gnewaX (atype := .int) hx hb hts k_1_57 hP2 hS2 (by decide) (N' := 6) (by decide) (Nat.le_of_ble_eq_true rfl) (Nat.le_of_ble_eq_true rfl) (Nat.le_of_ble_eq_true rfl) d_3_1_15 (fun q3 H3 hP3 hS3 => ?_)
  clear hP2 hS2
  refine W.widen (k := 2) (n := 12) (Nat.le_of_ble_eq_true rfl) (Nat.le_of_ble_eq_true rfl) ?_
  refine gputFX hx hb hts inW_1 tyX1 tyX1_ok nmX1 hown hK hP3 hD2 hS3 0 rfl rfl hF2 13 (by decide) k_2_63 rfl hnm rfl rfl rfl d_3_1_17 (L' := []) rfl (fun f4 H4 locs4 hF4 hm4 hP4 hD4 hS4 => ?_)
  have hM4 := gM.tr hM2 hm4
  have hP4 : va_P D cls [(a0, .inr (1, rg 14 f4))] H4 := hP4
  have hD4 : va_D A [(a0, .inr (1, rg 14 f4))] := hD4
  clear hP3 hD2 hS3 hF2 hM2 hm4
  have hP9 := hP4.sub (ws' := [(a0, .inr (1, rg 14 f4))]) [0] rfl
  have hD9 := hD4.sub (ws' := [(a0, .inr (1, rg 14 f4))]) [0] (by decide) rfl
  refine W.widen (k := 2) (n := 12) (Nat.le_of_ble_eq_true rfl) (Nat.le_of_ble_eq_true rfl) ?_
  exact W.vret hx hb hr (fun t ht hW => ⟨⟨(f4), rfl, ⟨hM4.mono (by decide), hF4.sub [] rfl⟩, by rw [ht]; exact hP9, va_K.moved hW.alike hK, hD9⟩, hS4.F ht⟩) hS4.2.2 d_3_1_20
abbrev Q_Scribe_init_0 (D : va_G) (ca : Nat → ClassId) (a0 : Nat) (g0 : Nat → Value) (A : Nat → Prop) : Array Value → State → Outcome → State → Prop := va_Qv (S := (Nat → Value)) (fun (u : (Nat → Value)) => gM g0 u [8, 4] ∧ gF u []) (fun u => gB D ca A [(a0, .inr (7, rg 9 u))]) A
set_option maxHeartbeats 8000000 in
set_option maxRecDepth 100000 in
theorem c_Scribe_init_0 (l : Launch) (D : va_G) (ca : Nat → ClassId) (ad av : Nat → Nat) (sz : Nat) (a0 : Nat) (g0 : Nat → Value) (hp0 : gF g0 []) : Met l ({ cls := "StaveHouse$Scribe", name := "<init>", desc := "()V" } : Jvm.MethodName) (Cond.code ({ cls := "StaveHouse$Scribe", name := "<init>", desc := "()V" } : Jvm.MethodName) prog_9_method_1_code 1 (Option.none : Option Jvm.ClassFile.FieldType) :: wAll) ({ frames := 2, cells := 4, slots := 154, locals := 32 } : Room) (va_Pc [.ref a0] (gPre D ca ad av [(a0, .inr (7, rg 9 g0))] sz)) (Q_Scribe_init_0 D ca a0 g0 (va_A [(a0, .inr (7, rg 9 g0))] sz)) 4 154 (va_A [(a0, .inr (7, rg 9 g0))] sz) := by
  refine gMet (Qc := Q_Scribe_init_0 D ca a0 g0) (lv := [(0, .ref a0)]) (by decide) (Nat.le_of_ble_eq_true rfl) rfl (fun A p e s m below meth c ls hx hb hr hml hown hts hlk hnm hl hP hK hD hS hA hX => ?_)
  have hown : s.vm.findClass "StaveHouse$Scribe" = some m.cls := hown
  have hnm : meth.name = "<init>" := hnm
  refine lv_aload_n hx hb d_9_1_0 rfl (lv_at hl 0 rfl) ?_
  refine W.objInit hx hb hown (hts _ k_2_13) (hts _ k_1_30) (hts _ k_1_31) rfl (by rw [hml]; exact hl.1) rfl d_9_1_1 (Nat.le_of_ble_eq_true rfl) (Nat.le_of_ble_eq_true rfl) ?_
  refine W.eq (g2 := F0 m 4 ls []) rfl ?_
  refine lv_aload_n hx hb d_9_1_4 rfl (lv_at hl 0 rfl) ?_
  refine gnew (L := []) (C := RX1) (T := TX1) (N := 14) (ci := 1) hx hb hts inW_1 tyX1 tyX1_ok hown k_2_14 k_2_15 k_1_8 hK hP hD hS hA rfl (Nat.le_of_ble_eq_true rfl) (Nat.le_of_ble_eq_true rfl) d_9_1_5 (gF_nil) (fun f1 q1 H1 hF1 hP1 hD1 hS1 => ?_)
  have hP1 : va_P D cls [(a0, .inr (7, rg 9 g0)), (q1, .inr (1, rg 14 f1))] H1 := hP1
  have hD1 : va_D A [(a0, .inr (7, rg 9 g0)), (q1, .inr (1, rg 14 f1))] := hD1
  refine W.widen (k := 1) (n := 14) (Nat.le_of_ble_eq_true rfl) (Nat.le_of_ble_eq_true rfl) ?_
  refine lv_dup hx hb d_9_1_8 rfl ?_
  have hFc2 := va_free (wc := [(q1, .inr (1, rg 14 f1))]) hD1 hS1 hA [1] rfl
  refine va_callv (va_runIN (As := []) (rest := [.ref q1, .ref a0]) ⟨hx, hb, hml, hown, hts⟩ (c_Event_init_0 l D ca ad av H1.size q1 f1 (hF1.sub [] rfl)) ⟨va_cnB 0 hts (gdC k_2_18) rfl rfl rfl (hX.1 _ (List.mem_of_getElem? (i := 4) rfl)) (hts _ k_1_8) (by decide +kernel) ⟨Nat.le_of_ble_eq_true rfl, Nat.le_of_ble_eq_true rfl⟩, rfl, hts _ k_2_17⟩ (gPS hP1 hD1 hK hS1 hA hX [1] (by decide) rfl [.ref q1]) rfl rfl hl.1 rfl (lv_room (Nat.le_of_ble_eq_true rfl)) d_9_1_9 ⟨Nat.le_of_ble_eq_true rfl, Nat.le_of_ble_eq_true rfl⟩) hS1 (fun q _ h => hFc2 q h) hFc2 (fun x2_0 t2 H2 locs2 ht2 hvm2 hw2 hB2 hz2 hk2 hS2 => ?_)
  obtain ⟨hw2_0, hw2_1⟩ := hw2
  obtain ⟨hP2, hD2⟩ := gJoin (wr := [(a0, .inr (7, rg 9 g0))]) (w1 := [(q1, .inr (1, rg 14 x2_0))]) hP1 hD1 [1] [0] rfl rfl (by decide) (by decide) hk2 hFc2 ht2 hB2
  have hF2_0 : gF x2_0 [] := gF.upd hF1 hw2_0 hw2_1 rfl
  have hP2 : va_P D cls [(a0, .inr (7, rg 9 g0)), (q1, .inr (1, rg 14 x2_0))] H2 := hP2
  have hD2 : va_D A [(a0, .inr (7, rg 9 g0)), (q1, .inr (1, rg 14 x2_0))] := hD2
  refine W.widen (k := 3) (n := 26) (Nat.le_of_ble_eq_true rfl) (Nat.le_of_ble_eq_true rfl) ?_
  refine gputFX hx hb hts inW_7 tyX7 tyX7_ok nmX7 hown hK hP2 hD2 hS2 0 rfl rfl hp0 4 (by decide) k_2_102 rfl hnm rfl rfl rfl d_9_1_12 (L' := []) rfl (fun f3 H3 locs3 hF3 hm3 hP3 hD3 hS3 => ?_)
  have hM3 := gM.tr (gM.rf (f := g0)) hm3
  have hP3 : va_P D cls [(a0, .inr (7, rg 9 f3)), (q1, .inr (1, rg 14 x2_0))] H3 := hP3
  have hD3 : va_D A [(a0, .inr (7, rg 9 f3)), (q1, .inr (1, rg 14 x2_0))] := hD3
  clear hP2 hD2 hS2 hm3
  have hP4 := hP3.sub (ws' := [(a0, .inr (7, rg 9 f3))]) [0] rfl
  have hD4 := hD3.sub (ws' := [(a0, .inr (7, rg 9 f3))]) [0] (by decide) rfl
  refine lv_aload_n hx hb d_9_1_15 rfl (lv_at hl 0 rfl) ?_
  refine lv_sipush (v := 128) hx hb d_9_1_16 (by decide) ?_
  refine gnewaX (atype := .boolean) hx hb hts k_2_126 hP4 hS3 (by decide) (N' := 128) (by decide) (Nat.le_of_ble_eq_true rfl) (Nat.le_of_ble_eq_true rfl) (Nat.le_of_ble_eq_true rfl) d_9_1_19 (fun q5 H5 hP5 hS5 => ?_)
  clear hP4 hS3
  refine W.widen (k := 4) (n := 154) (Nat.le_of_ble_eq_true rfl) (Nat.le_of_ble_eq_true rfl) ?_
  refine gputFX hx hb hts inW_7 tyX7 tyX7_ok nmX7 hown hK hP5 hD4 hS5 0 rfl rfl hF3 8 (by decide) k_2_106 rfl hnm rfl rfl rfl d_9_1_21 (L' := []) rfl (fun f6 H6 locs6 hF6 hm6 hP6 hD6 hS6 => ?_)
  have hM6 := gM.tr hM3 hm6
  have hP6 : va_P D cls [(a0, .inr (7, rg 9 f6))] H6 := hP6
  have hD6 : va_D A [(a0, .inr (7, rg 9 f6))] := hD6
  clear hP5 hD4 hS5 hF3 hM3 hm6
  have hP9 := hP6.sub (ws' := [(a0, .inr (7, rg 9 f6))]) [0] rfl
  have hD9 := hD6.sub (ws' := [(a0, .inr (7, rg 9 f6))]) [0] (by decide) rfl
  refine W.widen (k := 4) (n := 154) (Nat.le_of_ble_eq_true rfl) (Nat.le_of_ble_eq_true rfl) ?_
  exact W.vret hx hb hr (fun t ht hW => ⟨⟨(f6), rfl, ⟨hM6.mono (by decide), hF6.sub [] rfl⟩, by rw [ht]; exact hP9, va_K.moved hW.alike hK, hD9⟩, hS6.F ht⟩) hS6.2.2 d_9_1_24
abbrev Q_S_init_0 (D : va_G) (ca : Nat → ClassId) (a0 : Nat) (g0 : Nat → Value) (A : Nat → Prop) : Array Value → State → Outcome → State → Prop := va_Qv (S := (Nat → Value) × (Nat) × (Nat → Value) × (Nat) × (Nat → Option Nat) × (Nat) × (Nat → Value) × (Nat) × (Nat → Int32) × (Nat) × (Nat → Value) × (Nat) × (Nat → Value) × (Nat) × (Nat → Int32) × (Nat) × (Nat → Int32) × (Nat) × (Nat → Int64) × (Nat) × (Nat → Int32) × (Nat) × (Nat → Int32)) (fun (u : (Nat → Value) × (Nat) × (Nat → Value) × (Nat) × (Nat → Option Nat) × (Nat) × (Nat → Value) × (Nat) × (Nat → Int32) × (Nat) × (Nat → Value) × (Nat) × (Nat → Value) × (Nat) × (Nat → Int32) × (Nat) × (Nat → Int32) × (Nat) × (Nat → Int64) × (Nat) × (Nat → Int32) × (Nat) × (Nat → Int32)) => gM g0 u.1 [6, 5, 4, 3, 2, 1, 0] ∧ gF u.1 [(4, .ref u.2.1), (3, .ref u.2.2.2.1), (2, .ref u.2.2.2.2.2.1), (1, .ref u.2.2.2.2.2.2.2.1), (0, .ref u.2.2.2.2.2.2.2.2.2.1)] ∧ gF u.2.2.1 [(11, .ref u.2.2.2.2.2.2.2.2.2.2.2.1), (16, .int 0), (21, .int 0)] ∧ gF u.2.2.2.2.1 [(0, none), (1, none)] ∧ gF u.2.2.2.2.2.2.1 [(0, .ref u.2.2.2.2.2.2.2.2.2.2.2.2.2.1), (1, .int 0), (2, .int 0)] ∧ gF u.2.2.2.2.2.2.2.2.1 [] ∧ gF u.2.2.2.2.2.2.2.2.2.2.1 [(0, .ref u.2.2.2.2.2.2.2.2.2.2.2.2.2.2.2.1), (1, .int 0), (2, .int 0)] ∧ gF u.2.2.2.2.2.2.2.2.2.2.2.2.1 [(7, .ref u.2.2.2.2.2.2.2.2.2.2.2.2.2.2.2.2.2.1), (6, .ref u.2.2.2.2.2.2.2.2.2.2.2.2.2.2.2.2.2.2.2.1), (5, .ref u.2.2.2.2.2.2.2.2.2.2.2.2.2.2.2.2.2.2.2.2.2.1), (0, .int 0), (1, .int 0), (2, .long 0), (8, .int 0)] ∧ gF u.2.2.2.2.2.2.2.2.2.2.2.2.2.2.1 [] ∧ gF u.2.2.2.2.2.2.2.2.2.2.2.2.2.2.2.2.1 [] ∧ gF u.2.2.2.2.2.2.2.2.2.2.2.2.2.2.2.2.2.2.1 [] ∧ gF u.2.2.2.2.2.2.2.2.2.2.2.2.2.2.2.2.2.2.2.2.1 [] ∧ gF u.2.2.2.2.2.2.2.2.2.2.2.2.2.2.2.2.2.2.2.2.2.2 []) (fun u => gB D ca A [(a0, .inr (12, rg 10 u.1)), (u.2.1, .inr (3, rg 22 u.2.2.1)), (u.2.2.2.1, .inl (ca 4, 2, .inr (.inr (.inr (.inr u.2.2.2.2.1))))), (u.2.2.2.2.2.1, .inr (0, rg 3 u.2.2.2.2.2.2.1)), (u.2.2.2.2.2.2.2.1, .inl (ca 0, 20, .inl u.2.2.2.2.2.2.2.2.1)), (u.2.2.2.2.2.2.2.2.2.1, .inr (0, rg 3 u.2.2.2.2.2.2.2.2.2.2.1)), (u.2.2.2.2.2.2.2.2.2.2.2.1, .inr (10, rg 9 u.2.2.2.2.2.2.2.2.2.2.2.2.1)), (u.2.2.2.2.2.2.2.2.2.2.2.2.2.1, .inl (ca 0, 20480, .inl u.2.2.2.2.2.2.2.2.2.2.2.2.2.2.1)), (u.2.2.2.2.2.2.2.2.2.2.2.2.2.2.2.1, .inl (ca 0, 3000, .inl u.2.2.2.2.2.2.2.2.2.2.2.2.2.2.2.2.1)), (u.2.2.2.2.2.2.2.2.2.2.2.2.2.2.2.2.2.1, .inl (ca 1, 3001, .inr (.inl u.2.2.2.2.2.2.2.2.2.2.2.2.2.2.2.2.2.2.1))), (u.2.2.2.2.2.2.2.2.2.2.2.2.2.2.2.2.2.2.2.1, .inl (ca 0, 3001, .inl u.2.2.2.2.2.2.2.2.2.2.2.2.2.2.2.2.2.2.2.2.1)), (u.2.2.2.2.2.2.2.2.2.2.2.2.2.2.2.2.2.2.2.2.2.1, .inl (ca 0, 3001, .inl u.2.2.2.2.2.2.2.2.2.2.2.2.2.2.2.2.2.2.2.2.2.2))]) A
set_option maxHeartbeats 8000000 in
set_option maxRecDepth 100000 in
theorem c_S_init_0 (l : Launch) (D : va_G) (ca : Nat → ClassId) (ad av : Nat → Nat) (sz : Nat) (a0 : Nat) (g0 : Nat → Value) (hp0 : gF g0 []) : Met l ({ cls := "StaveHouse", name := "<init>", desc := "()V" } : Jvm.MethodName) (Cond.code ({ cls := "StaveHouse", name := "<init>", desc := "()V" } : Jvm.MethodName) prog_1_method_1_code 1 (Option.none : Option Jvm.ClassFile.FieldType) :: wAll) ({ frames := 3, cells := 34, slots := 61432, locals := 52 } : Room) (va_Pc [.ref a0] (gPre D ca ad av [(a0, .inr (12, rg 10 g0))] sz)) (Q_S_init_0 D ca a0 g0 (va_A [(a0, .inr (12, rg 10 g0))] sz)) 34 61432 (va_A [(a0, .inr (12, rg 10 g0))] sz) := by
  refine gMet (Qc := Q_S_init_0 D ca a0 g0) (lv := [(0, .ref a0)]) (by decide) (Nat.le_of_ble_eq_true rfl) rfl (fun A p e s m below meth c ls hx hb hr hml hown hts hlk hnm hl hP hK hD hS hA hX => ?_)
  have hown : s.vm.findClass "StaveHouse" = some m.cls := hown
  have hnm : meth.name = "<init>" := hnm
  refine lv_aload_n hx hb d_1_1_0 rfl (lv_at hl 0 rfl) ?_
  refine W.objInit hx hb hown (hts _ k_1_29) (hts _ k_1_30) (hts _ k_1_31) rfl (by rw [hml]; exact hl.1) rfl d_1_1_1 (Nat.le_of_ble_eq_true rfl) (Nat.le_of_ble_eq_true rfl) ?_
  refine W.eq (g2 := F0 m 4 ls []) rfl ?_
  refine lv_aload_n hx hb d_1_1_4 rfl (lv_at hl 0 rfl) ?_
  refine gnew (L := [(0, .null), (1, .int 0), (2, .int 0)]) (C := RX0) (T := TX0) (N := 3) (ci := 0) hx hb hts inW_0 tyX0 tyX0_ok hown k_1_32 k_1_33 k_1_2 hK hP hD hS hA rfl (Nat.le_of_ble_eq_true rfl) (Nat.le_of_ble_eq_true rfl) d_1_1_5 (gF_cons rfl (gF_cons rfl (gF_cons rfl (gF_nil)))) (fun f1 q1 H1 hF1 hP1 hD1 hS1 => ?_)
  have hP1 : va_P D cls [(a0, .inr (12, rg 10 g0)), (q1, .inr (0, rg 3 f1))] H1 := hP1
  have hD1 : va_D A [(a0, .inr (12, rg 10 g0)), (q1, .inr (0, rg 3 f1))] := hD1
  refine W.widen (k := 1) (n := 3) (Nat.le_of_ble_eq_true rfl) (Nat.le_of_ble_eq_true rfl) ?_
  refine lv_dup hx hb d_1_1_8 rfl ?_
  refine lv_sipush (v := 3000) hx hb d_1_1_9 (by decide) ?_
  have hFc2 := va_free (wc := [(q1, .inr (0, rg 3 f1))]) hD1 hS1 hA [1] rfl
  refine va_callv (va_runI (As := [.int 3000]) (rest := [.ref q1, .ref a0]) ⟨hx, hb, hml, hown, hts⟩ (c_ByteRow_init_0 l D ca ad av H1.size q1 f1 (hF1.sub [] rfl)) (cwI 1 hts (gdC k_1_36) rfl rfl rfl (hts _ k_1_2) (hts _ k_1_34) (hts _ k_1_35) rfl (by decide +kernel) ⟨Nat.le_of_ble_eq_true rfl, Nat.le_of_ble_eq_true rfl⟩) (gPS hP1 hD1 hK hS1 hA hX [1] (by decide) rfl [.ref q1, .int 3000]) rfl rfl hl.1 rfl (lv_room (Nat.le_of_ble_eq_true rfl)) d_1_1_12 ⟨Nat.le_of_ble_eq_true rfl, Nat.le_of_ble_eq_true rfl⟩) hS1 (fun q _ h => hFc2 q h) hFc2 (fun u2 t2 H2 locs2 ht2 hvm2 hw2 hB2 hz2 hk2 hS2 => ?_)
  obtain ⟨x2_0, x2_1, x2_2⟩ := u2
  try dsimp only at hw2 hB2
  obtain ⟨hw2_0, hw2_1, hw2_2⟩ := hw2
  obtain ⟨hP2, hD2⟩ := gJoin (wr := [(a0, .inr (12, rg 10 g0))]) (w1 := [(q1, .inr (0, rg 3 x2_0)), (x2_1, .inl (ca 0, 3000, .inl x2_2))]) hP1 hD1 [1] [0] rfl rfl (by decide) (by decide) hk2 hFc2 ht2 hB2
  have hF2_0 : gF x2_0 [(0, .ref x2_1), (1, .int 0), (2, .int 0)] := gF.upd hF1 hw2_0 hw2_1 rfl
  have hP2 : va_P D cls [(a0, .inr (12, rg 10 g0)), (q1, .inr (0, rg 3 x2_0)), (x2_1, .inl (ca 0, 3000, .inl x2_2))] H2 := hP2
  have hD2 : va_D A [(a0, .inr (12, rg 10 g0)), (q1, .inr (0, rg 3 x2_0)), (x2_1, .inl (ca 0, 3000, .inl x2_2))] := hD2
  refine W.widen (k := 2) (n := 3003) (Nat.le_of_ble_eq_true rfl) (Nat.le_of_ble_eq_true rfl) ?_
  refine gputF hx hb hts inW_12 tyX12 tyX12_ok nmX12 hown hK hP2 hD2 hS2 0 rfl rfl hp0 0 (by decide) k_2_127 rfl hnm rfl rfl rfl d_1_1_15 (L' := [(0, .ref q1)]) rfl (fun f3 H3 locs3 hF3 hm3 hP3 hD3 hS3 => ?_)
  have hM3 := gM.tr (gM.rf (f := g0)) hm3
  have hP3 : va_P D cls [(a0, .inr (12, rg 10 f3)), (q1, .inr (0, rg 3 x2_0)), (x2_1, .inl (ca 0, 3000, .inl x2_2))] H3 := hP3
  have hD3 : va_D A [(a0, .inr (12, rg 10 f3)), (q1, .inr (0, rg 3 x2_0)), (x2_1, .inl (ca 0, 3000, .inl x2_2))] := hD3
  clear hP2 hD2 hS2 hm3
  refine lv_aload_n hx hb d_1_1_18 rfl (lv_at hl 0 rfl) ?_
  refine lv_bipush (v := 20) hx hb d_1_1_19 (by decide) ?_
  refine gnewa (atype := .int) hx hb hts (ty := .int) rfl k_1_57 hK 0 rfl (fun _ _ => gu_int) hP3 hD3 hS3 hA (a0 := (20, .inl (fun _ => 0))) (fun _ => rfl) (by decide) (N' := 20) (by decide) (Nat.le_of_ble_eq_true rfl) (Nat.le_of_ble_eq_true rfl) (Nat.le_of_ble_eq_true rfl) d_1_1_21 (fun q4 H4 hP4 hD4 hS4 => ?_)
  obtain ⟨f4, hF4, hP4, hD4⟩ : ∃ f : Nat → Int32, gF f [] ∧ va_P D cls ([(a0, .inr (12, rg 10 f3)), (q1, .inr (0, rg 3 x2_0)), (x2_1, .inl (ca 0, 3000, .inl x2_2))] ++ [(q4, .inl (ca 0, 20, .inl f))]) H4 ∧ va_D A ([(a0, .inr (12, rg 10 f3)), (q1, .inr (0, rg 3 x2_0)), (x2_1, .inl (ca 0, 3000, .inl x2_2))] ++ [(q4, .inl (ca 0, 20, .inl f))]) := ⟨_, gF_nil, hP4, hD4⟩
  have hP4 : va_P D cls [(a0, .inr (12, rg 10 f3)), (q1, .inr (0, rg 3 x2_0)), (x2_1, .inl (ca 0, 3000, .inl x2_2)), (q4, .inl (ca 0, 20, .inl f4))] H4 := hP4
  have hD4 : va_D A [(a0, .inr (12, rg 10 f3)), (q1, .inr (0, rg 3 x2_0)), (x2_1, .inl (ca 0, 3000, .inl x2_2)), (q4, .inl (ca 0, 20, .inl f4))] := hD4
  refine W.widen (k := 3) (n := 3023) (Nat.le_of_ble_eq_true rfl) (Nat.le_of_ble_eq_true rfl) ?_
  refine gputF hx hb hts inW_12 tyX12 tyX12_ok nmX12 hown hK hP4 hD4 hS4 0 rfl rfl hF3 1 (by decide) k_2_128 rfl hnm rfl rfl rfl d_1_1_23 (L' := [(1, .ref q4), (0, .ref q1)]) rfl (fun f5 H5 locs5 hF5 hm5 hP5 hD5 hS5 => ?_)
  have hM5 := gM.tr hM3 hm5
  have hP5 : va_P D cls [(a0, .inr (12, rg 10 f5)), (q1, .inr (0, rg 3 x2_0)), (x2_1, .inl (ca 0, 3000, .inl x2_2)), (q4, .inl (ca 0, 20, .inl f4))] H5 := hP5
  have hD5 : va_D A [(a0, .inr (12, rg 10 f5)), (q1, .inr (0, rg 3 x2_0)), (x2_1, .inl (ca 0, 3000, .inl x2_2)), (q4, .inl (ca 0, 20, .inl f4))] := hD5
  clear hP4 hD4 hS4 hF3 hM3 hm5
  refine lv_aload_n hx hb d_1_1_26 rfl (lv_at hl 0 rfl) ?_
  refine gnew (L := [(0, .null), (1, .int 0), (2, .int 0)]) (C := RX0) (T := TX0) (N := 3) (ci := 0) hx hb hts inW_0 tyX0 tyX0_ok hown k_1_32 k_1_33 k_1_2 hK hP5 hD5 hS5 hA rfl (Nat.le_of_ble_eq_true rfl) (Nat.le_of_ble_eq_true rfl) d_1_1_27 (gF_cons rfl (gF_cons rfl (gF_cons rfl (gF_nil)))) (fun f6 q6 H6 hF6 hP6 hD6 hS6 => ?_)
  have hP6 : va_P D cls [(a0, .inr (12, rg 10 f5)), (q1, .inr (0, rg 3 x2_0)), (x2_1, .inl (ca 0, 3000, .inl x2_2)), (q4, .inl (ca 0, 20, .inl f4)), (q6, .inr (0, rg 3 f6))] H6 := hP6
  have hD6 : va_D A [(a0, .inr (12, rg 10 f5)), (q1, .inr (0, rg 3 x2_0)), (x2_1, .inl (ca 0, 3000, .inl x2_2)), (q4, .inl (ca 0, 20, .inl f4)), (q6, .inr (0, rg 3 f6))] := hD6
  refine W.widen (k := 4) (n := 3026) (Nat.le_of_ble_eq_true rfl) (Nat.le_of_ble_eq_true rfl) ?_
  refine lv_dup hx hb d_1_1_30 rfl ?_
  refine lv_sipush (v := 20480) hx hb d_1_1_31 (by decide) ?_
  have hFc7 := va_free (wc := [(q6, .inr (0, rg 3 f6))]) hD6 hS6 hA [4] rfl
  refine va_callv (va_runI (As := [.int 20480]) (rest := [.ref q6, .ref a0]) ⟨hx, hb, hml, hown, hts⟩ (c_ByteRow_init_1 l D ca ad av H6.size q6 f6 (hF6.sub [] rfl)) (cwI 1 hts (gdC k_1_36) rfl rfl rfl (hts _ k_1_2) (hts _ k_1_34) (hts _ k_1_35) rfl (by decide +kernel) ⟨Nat.le_of_ble_eq_true rfl, Nat.le_of_ble_eq_true rfl⟩) (gPS hP6 hD6 hK hS6 hA hX [4] (by decide) rfl [.ref q6, .int 20480]) rfl rfl hl.1 rfl (lv_room (Nat.le_of_ble_eq_true rfl)) d_1_1_34 ⟨Nat.le_of_ble_eq_true rfl, Nat.le_of_ble_eq_true rfl⟩) hS6 (fun q _ h => hFc7 q h) hFc7 (fun u7 t7 H7 locs7 ht7 hvm7 hw7 hB7 hz7 hk7 hS7 => ?_)
  obtain ⟨x7_0, x7_1, x7_2⟩ := u7
  try dsimp only at hw7 hB7
  obtain ⟨hw7_0, hw7_1, hw7_2⟩ := hw7
  obtain ⟨hP7, hD7⟩ := gJoin (wr := [(a0, .inr (12, rg 10 f5)), (q1, .inr (0, rg 3 x2_0)), (x2_1, .inl (ca 0, 3000, .inl x2_2)), (q4, .inl (ca 0, 20, .inl f4))]) (w1 := [(q6, .inr (0, rg 3 x7_0)), (x7_1, .inl (ca 0, 20480, .inl x7_2))]) hP6 hD6 [4] [0, 1, 2, 3] rfl rfl (by decide) (by decide) hk7 hFc7 ht7 hB7
  have hF7_0 : gF x7_0 [(0, .ref x7_1), (1, .int 0), (2, .int 0)] := gF.upd hF6 hw7_0 hw7_1 rfl
  have hP7 : va_P D cls [(a0, .inr (12, rg 10 f5)), (q1, .inr (0, rg 3 x2_0)), (x2_1, .inl (ca 0, 3000, .inl x2_2)), (q4, .inl (ca 0, 20, .inl f4)), (q6, .inr (0, rg 3 x7_0)), (x7_1, .inl (ca 0, 20480, .inl x7_2))] H7 := hP7
  have hD7 : va_D A [(a0, .inr (12, rg 10 f5)), (q1, .inr (0, rg 3 x2_0)), (x2_1, .inl (ca 0, 3000, .inl x2_2)), (q4, .inl (ca 0, 20, .inl f4)), (q6, .inr (0, rg 3 x7_0)), (x7_1, .inl (ca 0, 20480, .inl x7_2))] := hD7
  refine W.widen (k := 5) (n := 23506) (Nat.le_of_ble_eq_true rfl) (Nat.le_of_ble_eq_true rfl) ?_
  refine gputF hx hb hts inW_12 tyX12 tyX12_ok nmX12 hown hK hP7 hD7 hS7 0 rfl rfl hF5 2 (by decide) k_2_129 rfl hnm rfl rfl rfl d_1_1_37 (L' := [(2, .ref q6), (1, .ref q4), (0, .ref q1)]) rfl (fun f8 H8 locs8 hF8 hm8 hP8 hD8 hS8 => ?_)
  have hM8 := gM.tr hM5 hm8
  have hP8 : va_P D cls [(a0, .inr (12, rg 10 f8)), (q1, .inr (0, rg 3 x2_0)), (x2_1, .inl (ca 0, 3000, .inl x2_2)), (q4, .inl (ca 0, 20, .inl f4)), (q6, .inr (0, rg 3 x7_0)), (x7_1, .inl (ca 0, 20480, .inl x7_2))] H8 := hP8
  have hD8 : va_D A [(a0, .inr (12, rg 10 f8)), (q1, .inr (0, rg 3 x2_0)), (x2_1, .inl (ca 0, 3000, .inl x2_2)), (q4, .inl (ca 0, 20, .inl f4)), (q6, .inr (0, rg 3 x7_0)), (x7_1, .inl (ca 0, 20480, .inl x7_2))] := hD8
  clear hP7 hD7 hS7 hF5 hM5 hm8
  refine lv_aload_n hx hb d_1_1_40 rfl (lv_at hl 0 rfl) ?_
  refine lv_iconst (v := 2) hx hb d_1_1_41 (by decide) ?_
  refine gnewq hx hb hts hown k_1_58 (hX.2.1 _ (List.mem_of_getElem? (i := 0) rfl)) hK 4 rfl hP8 hD8 hS8 hA (by decide) (N' := 2) (by decide) (Nat.le_of_ble_eq_true rfl) (Nat.le_of_ble_eq_true rfl) (Nat.le_of_ble_eq_true rfl) d_1_1_42 (fun q9 H9 hP9 hD9 hS9 => ?_)
  obtain ⟨f9, hF9, hP9, hD9⟩ : ∃ f : Nat → Option Nat, gF f [(0, none), (1, none)] ∧ va_P D cls ([(a0, .inr (12, rg 10 f8)), (q1, .inr (0, rg 3 x2_0)), (x2_1, .inl (ca 0, 3000, .inl x2_2)), (q4, .inl (ca 0, 20, .inl f4)), (q6, .inr (0, rg 3 x7_0)), (x7_1, .inl (ca 0, 20480, .inl x7_2))] ++ [(q9, .inl (ca 4, 2, .inr (.inr (.inr (.inr f)))))]) H9 ∧ va_D A ([(a0, .inr (12, rg 10 f8)), (q1, .inr (0, rg 3 x2_0)), (x2_1, .inl (ca 0, 3000, .inl x2_2)), (q4, .inl (ca 0, 20, .inl f4)), (q6, .inr (0, rg 3 x7_0)), (x7_1, .inl (ca 0, 20480, .inl x7_2))] ++ [(q9, .inl (ca 4, 2, .inr (.inr (.inr (.inr f)))))]) := ⟨fun _ => none, gF_cons rfl (gF_cons rfl (gF_nil)), hP9, hD9⟩
  have hP9 : va_P D cls [(a0, .inr (12, rg 10 f8)), (q1, .inr (0, rg 3 x2_0)), (x2_1, .inl (ca 0, 3000, .inl x2_2)), (q4, .inl (ca 0, 20, .inl f4)), (q6, .inr (0, rg 3 x7_0)), (x7_1, .inl (ca 0, 20480, .inl x7_2)), (q9, .inl (ca 4, 2, .inr (.inr (.inr (.inr f9)))))] H9 := hP9
  have hD9 : va_D A [(a0, .inr (12, rg 10 f8)), (q1, .inr (0, rg 3 x2_0)), (x2_1, .inl (ca 0, 3000, .inl x2_2)), (q4, .inl (ca 0, 20, .inl f4)), (q6, .inr (0, rg 3 x7_0)), (x7_1, .inl (ca 0, 20480, .inl x7_2)), (q9, .inl (ca 4, 2, .inr (.inr (.inr (.inr f9)))))] := hD9
  refine W.widen (k := 6) (n := 23508) (Nat.le_of_ble_eq_true rfl) (Nat.le_of_ble_eq_true rfl) ?_
  refine gputF hx hb hts inW_12 tyX12 tyX12_ok nmX12 hown hK hP9 hD9 hS9 0 rfl rfl hF8 3 (by decide) k_2_130 rfl hnm rfl rfl rfl d_1_1_45 (L' := [(3, .ref q9), (2, .ref q6), (1, .ref q4), (0, .ref q1)]) rfl (fun f10 H10 locs10 hF10 hm10 hP10 hD10 hS10 => ?_)
  have hM10 := gM.tr hM8 hm10
  have hP10 : va_P D cls [(a0, .inr (12, rg 10 f10)), (q1, .inr (0, rg 3 x2_0)), (x2_1, .inl (ca 0, 3000, .inl x2_2)), (q4, .inl (ca 0, 20, .inl f4)), (q6, .inr (0, rg 3 x7_0)), (x7_1, .inl (ca 0, 20480, .inl x7_2)), (q9, .inl (ca 4, 2, .inr (.inr (.inr (.inr f9)))))] H10 := hP10
  have hD10 : va_D A [(a0, .inr (12, rg 10 f10)), (q1, .inr (0, rg 3 x2_0)), (x2_1, .inl (ca 0, 3000, .inl x2_2)), (q4, .inl (ca 0, 20, .inl f4)), (q6, .inr (0, rg 3 x7_0)), (x7_1, .inl (ca 0, 20480, .inl x7_2)), (q9, .inl (ca 4, 2, .inr (.inr (.inr (.inr f9)))))] := hD10
  clear hP9 hD9 hS9 hF8 hM8 hm10
  refine lv_aload_n hx hb d_1_1_48 rfl (lv_at hl 0 rfl) ?_
  refine gnew (L := [(11, .null), (16, .int 0), (21, .int 0)]) (C := RX3) (T := TX3) (N := 22) (ci := 3) hx hb hts inW_3 tyX3 tyX3_ok hown k_1_60 k_1_61 k_1_4 hK hP10 hD10 hS10 hA rfl (Nat.le_of_ble_eq_true rfl) (Nat.le_of_ble_eq_true rfl) d_1_1_49 (gF_cons rfl (gF_cons rfl (gF_cons rfl (gF_nil)))) (fun f11 q11 H11 hF11 hP11 hD11 hS11 => ?_)
  have hP11 : va_P D cls [(a0, .inr (12, rg 10 f10)), (q1, .inr (0, rg 3 x2_0)), (x2_1, .inl (ca 0, 3000, .inl x2_2)), (q4, .inl (ca 0, 20, .inl f4)), (q6, .inr (0, rg 3 x7_0)), (x7_1, .inl (ca 0, 20480, .inl x7_2)), (q9, .inl (ca 4, 2, .inr (.inr (.inr (.inr f9))))), (q11, .inr (3, rg 22 f11))] H11 := hP11
  have hD11 : va_D A [(a0, .inr (12, rg 10 f10)), (q1, .inr (0, rg 3 x2_0)), (x2_1, .inl (ca 0, 3000, .inl x2_2)), (q4, .inl (ca 0, 20, .inl f4)), (q6, .inr (0, rg 3 x7_0)), (x7_1, .inl (ca 0, 20480, .inl x7_2)), (q9, .inl (ca 4, 2, .inr (.inr (.inr (.inr f9))))), (q11, .inr (3, rg 22 f11))] := hD11
  refine W.widen (k := 7) (n := 23530) (Nat.le_of_ble_eq_true rfl) (Nat.le_of_ble_eq_true rfl) ?_
  refine lv_dup hx hb d_1_1_52 rfl ?_
  have hFc12 := va_free (wc := [(q11, .inr (3, rg 22 f11))]) hD11 hS11 hA [7] rfl
  refine va_callv (va_runIN (As := []) (rest := [.ref q11, .ref a0]) ⟨hx, hb, hml, hown, hts⟩ (c_Parser_init_0 l D ca ad av H11.size q11 f11 (hF11.sub [] rfl)) ⟨va_cnB 0 hts (gdC k_1_64) rfl rfl rfl (hX.1 _ (List.mem_of_getElem? (i := 0) rfl)) (hts _ k_1_4) (by decide +kernel) ⟨Nat.le_of_ble_eq_true rfl, Nat.le_of_ble_eq_true rfl⟩, rfl, hts _ k_1_63⟩ (gPS hP11 hD11 hK hS11 hA hX [7] (by decide) rfl [.ref q11]) rfl rfl hl.1 rfl (lv_room (Nat.le_of_ble_eq_true rfl)) d_1_1_53 ⟨Nat.le_of_ble_eq_true rfl, Nat.le_of_ble_eq_true rfl⟩) hS11 (fun q _ h => hFc12 q h) hFc12 (fun u12 t12 H12 locs12 ht12 hvm12 hw12 hB12 hz12 hk12 hS12 => ?_)
  obtain ⟨x12_0, x12_1, x12_2, x12_3, x12_4, x12_5, x12_6, x12_7, x12_8⟩ := u12
  try dsimp only at hw12 hB12
  obtain ⟨hw12_0, hw12_1, hw12_2, hw12_3, hw12_4, hw12_5⟩ := hw12
  obtain ⟨hP12, hD12⟩ := gJoin (wr := [(a0, .inr (12, rg 10 f10)), (q1, .inr (0, rg 3 x2_0)), (x2_1, .inl (ca 0, 3000, .inl x2_2)), (q4, .inl (ca 0, 20, .inl f4)), (q6, .inr (0, rg 3 x7_0)), (x7_1, .inl (ca 0, 20480, .inl x7_2)), (q9, .inl (ca 4, 2, .inr (.inr (.inr (.inr f9)))))]) (w1 := [(q11, .inr (3, rg 22 x12_0)), (x12_1, .inr (10, rg 9 x12_2)), (x12_3, .inl (ca 1, 3001, .inr (.inl x12_4))), (x12_5, .inl (ca 0, 3001, .inl x12_6)), (x12_7, .inl (ca 0, 3001, .inl x12_8))]) hP11 hD11 [7] [0, 1, 2, 3, 4, 5, 6] rfl rfl (by decide) (by decide) hk12 hFc12 ht12 hB12
  have hF12_0 : gF x12_0 [(11, .ref x12_1), (16, .int 0), (21, .int 0)] := gF.upd hF11 hw12_0 hw12_1 rfl
  have hP12 : va_P D cls [(a0, .inr (12, rg 10 f10)), (q1, .inr (0, rg 3 x2_0)), (x2_1, .inl (ca 0, 3000, .inl x2_2)), (q4, .inl (ca 0, 20, .inl f4)), (q6, .inr (0, rg 3 x7_0)), (x7_1, .inl (ca 0, 20480, .inl x7_2)), (q9, .inl (ca 4, 2, .inr (.inr (.inr (.inr f9))))), (q11, .inr (3, rg 22 x12_0)), (x12_1, .inr (10, rg 9 x12_2)), (x12_3, .inl (ca 1, 3001, .inr (.inl x12_4))), (x12_5, .inl (ca 0, 3001, .inl x12_6)), (x12_7, .inl (ca 0, 3001, .inl x12_8))] H12 := hP12
  have hD12 : va_D A [(a0, .inr (12, rg 10 f10)), (q1, .inr (0, rg 3 x2_0)), (x2_1, .inl (ca 0, 3000, .inl x2_2)), (q4, .inl (ca 0, 20, .inl f4)), (q6, .inr (0, rg 3 x7_0)), (x7_1, .inl (ca 0, 20480, .inl x7_2)), (q9, .inl (ca 4, 2, .inr (.inr (.inr (.inr f9))))), (q11, .inr (3, rg 22 x12_0)), (x12_1, .inr (10, rg 9 x12_2)), (x12_3, .inl (ca 1, 3001, .inr (.inl x12_4))), (x12_5, .inl (ca 0, 3001, .inl x12_6)), (x12_7, .inl (ca 0, 3001, .inl x12_8))] := hD12
  refine W.widen (k := 24) (n := 61054) (Nat.le_of_ble_eq_true rfl) (Nat.le_of_ble_eq_true rfl) ?_
  refine gputF hx hb hts inW_12 tyX12 tyX12_ok nmX12 hown hK hP12 hD12 hS12 0 rfl rfl hF10 4 (by decide) k_2_131 rfl hnm rfl rfl rfl d_1_1_56 (L' := [(4, .ref q11), (3, .ref q9), (2, .ref q6), (1, .ref q4), (0, .ref q1)]) rfl (fun f13 H13 locs13 hF13 hm13 hP13 hD13 hS13 => ?_)
  have hM13 := gM.tr hM10 hm13
  have hP13 : va_P D cls [(a0, .inr (12, rg 10 f13)), (q1, .inr (0, rg 3 x2_0)), (x2_1, .inl (ca 0, 3000, .inl x2_2)), (q4, .inl (ca 0, 20, .inl f4)), (q6, .inr (0, rg 3 x7_0)), (x7_1, .inl (ca 0, 20480, .inl x7_2)), (q9, .inl (ca 4, 2, .inr (.inr (.inr (.inr f9))))), (q11, .inr (3, rg 22 x12_0)), (x12_1, .inr (10, rg 9 x12_2)), (x12_3, .inl (ca 1, 3001, .inr (.inl x12_4))), (x12_5, .inl (ca 0, 3001, .inl x12_6)), (x12_7, .inl (ca 0, 3001, .inl x12_8))] H13 := hP13
  have hD13 : va_D A [(a0, .inr (12, rg 10 f13)), (q1, .inr (0, rg 3 x2_0)), (x2_1, .inl (ca 0, 3000, .inl x2_2)), (q4, .inl (ca 0, 20, .inl f4)), (q6, .inr (0, rg 3 x7_0)), (x7_1, .inl (ca 0, 20480, .inl x7_2)), (q9, .inl (ca 4, 2, .inr (.inr (.inr (.inr f9))))), (q11, .inr (3, rg 22 x12_0)), (x12_1, .inr (10, rg 9 x12_2)), (x12_3, .inl (ca 1, 3001, .inr (.inl x12_4))), (x12_5, .inl (ca 0, 3001, .inl x12_6)), (x12_7, .inl (ca 0, 3001, .inl x12_8))] := hD13
  clear hP12 hD12 hS12 hF10 hM10 hm13
  refine lv_aload_n hx hb d_1_1_59 rfl (lv_at hl 0 rfl) ?_
  refine gnew (L := []) (C := RX11) (T := TX11) (N := 19) (ci := 11) hx hb hts inW_11 tyX11 tyX11_ok hown k_1_184 k_1_185 k_1_6 hK hP13 hD13 hS13 hA rfl (Nat.le_of_ble_eq_true rfl) (Nat.le_of_ble_eq_true rfl) d_1_1_60 (gF_nil) (fun f14 q14 H14 hF14 hP14 hD14 hS14 => ?_)
  have hP14 : va_P D cls [(a0, .inr (12, rg 10 f13)), (q1, .inr (0, rg 3 x2_0)), (x2_1, .inl (ca 0, 3000, .inl x2_2)), (q4, .inl (ca 0, 20, .inl f4)), (q6, .inr (0, rg 3 x7_0)), (x7_1, .inl (ca 0, 20480, .inl x7_2)), (q9, .inl (ca 4, 2, .inr (.inr (.inr (.inr f9))))), (q11, .inr (3, rg 22 x12_0)), (x12_1, .inr (10, rg 9 x12_2)), (x12_3, .inl (ca 1, 3001, .inr (.inl x12_4))), (x12_5, .inl (ca 0, 3001, .inl x12_6)), (x12_7, .inl (ca 0, 3001, .inl x12_8)), (q14, .inr (11, rg 19 f14))] H14 := hP14
  have hD14 : va_D A [(a0, .inr (12, rg 10 f13)), (q1, .inr (0, rg 3 x2_0)), (x2_1, .inl (ca 0, 3000, .inl x2_2)), (q4, .inl (ca 0, 20, .inl f4)), (q6, .inr (0, rg 3 x7_0)), (x7_1, .inl (ca 0, 20480, .inl x7_2)), (q9, .inl (ca 4, 2, .inr (.inr (.inr (.inr f9))))), (q11, .inr (3, rg 22 x12_0)), (x12_1, .inr (10, rg 9 x12_2)), (x12_3, .inl (ca 1, 3001, .inr (.inl x12_4))), (x12_5, .inl (ca 0, 3001, .inl x12_6)), (x12_7, .inl (ca 0, 3001, .inl x12_8)), (q14, .inr (11, rg 19 f14))] := hD14
  refine W.widen (k := 25) (n := 61073) (Nat.le_of_ble_eq_true rfl) (Nat.le_of_ble_eq_true rfl) ?_
  refine lv_dup hx hb d_1_1_63 rfl ?_
  have hFc15 := va_free (wc := [(q14, .inr (11, rg 19 f14))]) hD14 hS14 hA [12] rfl
  refine va_callv (va_runIN (As := []) (rest := [.ref q14, .ref a0]) ⟨hx, hb, hml, hown, hts⟩ (c_Walker_init_0 l D ca ad av H14.size q14 f14 (hF14.sub [] rfl)) ⟨va_cnB 0 hts (gdC k_1_188) rfl rfl rfl (hX.1 _ (List.mem_of_getElem? (i := 2) rfl)) (hts _ k_1_6) (by decide +kernel) ⟨Nat.le_of_ble_eq_true rfl, Nat.le_of_ble_eq_true rfl⟩, rfl, hts _ k_1_187⟩ (gPS hP14 hD14 hK hS14 hA hX [12] (by decide) rfl [.ref q14]) rfl rfl hl.1 rfl (lv_room (Nat.le_of_ble_eq_true rfl)) d_1_1_64 ⟨Nat.le_of_ble_eq_true rfl, Nat.le_of_ble_eq_true rfl⟩) hS14 (fun q _ h => hFc15 q h) hFc15 (fun x15_0 t15 H15 locs15 ht15 hvm15 hw15 hB15 hz15 hk15 hS15 => ?_)
  obtain ⟨hw15_0, hw15_1⟩ := hw15
  obtain ⟨hP15, hD15⟩ := gJoin (wr := [(a0, .inr (12, rg 10 f13)), (q1, .inr (0, rg 3 x2_0)), (x2_1, .inl (ca 0, 3000, .inl x2_2)), (q4, .inl (ca 0, 20, .inl f4)), (q6, .inr (0, rg 3 x7_0)), (x7_1, .inl (ca 0, 20480, .inl x7_2)), (q9, .inl (ca 4, 2, .inr (.inr (.inr (.inr f9))))), (q11, .inr (3, rg 22 x12_0)), (x12_1, .inr (10, rg 9 x12_2)), (x12_3, .inl (ca 1, 3001, .inr (.inl x12_4))), (x12_5, .inl (ca 0, 3001, .inl x12_6)), (x12_7, .inl (ca 0, 3001, .inl x12_8))]) (w1 := [(q14, .inr (11, rg 19 x15_0))]) hP14 hD14 [12] [0, 1, 2, 3, 4, 5, 6, 7, 8, 9, 10, 11] rfl rfl (by decide) (by decide) hk15 hFc15 ht15 hB15
  have hF15_0 : gF x15_0 [] := gF.upd hF14 hw15_0 hw15_1 rfl
  have hP15 : va_P D cls [(a0, .inr (12, rg 10 f13)), (q1, .inr (0, rg 3 x2_0)), (x2_1, .inl (ca 0, 3000, .inl x2_2)), (q4, .inl (ca 0, 20, .inl f4)), (q6, .inr (0, rg 3 x7_0)), (x7_1, .inl (ca 0, 20480, .inl x7_2)), (q9, .inl (ca 4, 2, .inr (.inr (.inr (.inr f9))))), (q11, .inr (3, rg 22 x12_0)), (x12_1, .inr (10, rg 9 x12_2)), (x12_3, .inl (ca 1, 3001, .inr (.inl x12_4))), (x12_5, .inl (ca 0, 3001, .inl x12_6)), (x12_7, .inl (ca 0, 3001, .inl x12_8)), (q14, .inr (11, rg 19 x15_0))] H15 := hP15
  have hD15 : va_D A [(a0, .inr (12, rg 10 f13)), (q1, .inr (0, rg 3 x2_0)), (x2_1, .inl (ca 0, 3000, .inl x2_2)), (q4, .inl (ca 0, 20, .inl f4)), (q6, .inr (0, rg 3 x7_0)), (x7_1, .inl (ca 0, 20480, .inl x7_2)), (q9, .inl (ca 4, 2, .inr (.inr (.inr (.inr f9))))), (q11, .inr (3, rg 22 x12_0)), (x12_1, .inr (10, rg 9 x12_2)), (x12_3, .inl (ca 1, 3001, .inr (.inl x12_4))), (x12_5, .inl (ca 0, 3001, .inl x12_6)), (x12_7, .inl (ca 0, 3001, .inl x12_8)), (q14, .inr (11, rg 19 x15_0))] := hD15
  refine W.widen (k := 29) (n := 61269) (Nat.le_of_ble_eq_true rfl) (Nat.le_of_ble_eq_true rfl) ?_
  refine gputFX hx hb hts inW_12 tyX12 tyX12_ok nmX12 hown hK hP15 hD15 hS15 0 rfl rfl hF13 5 (by decide) k_2_132 rfl hnm rfl rfl rfl d_1_1_67 (L' := [(4, .ref q11), (3, .ref q9), (2, .ref q6), (1, .ref q4), (0, .ref q1)]) rfl (fun f16 H16 locs16 hF16 hm16 hP16 hD16 hS16 => ?_)
  have hM16 := gM.tr hM13 hm16
  have hP16 : va_P D cls [(a0, .inr (12, rg 10 f16)), (q1, .inr (0, rg 3 x2_0)), (x2_1, .inl (ca 0, 3000, .inl x2_2)), (q4, .inl (ca 0, 20, .inl f4)), (q6, .inr (0, rg 3 x7_0)), (x7_1, .inl (ca 0, 20480, .inl x7_2)), (q9, .inl (ca 4, 2, .inr (.inr (.inr (.inr f9))))), (q11, .inr (3, rg 22 x12_0)), (x12_1, .inr (10, rg 9 x12_2)), (x12_3, .inl (ca 1, 3001, .inr (.inl x12_4))), (x12_5, .inl (ca 0, 3001, .inl x12_6)), (x12_7, .inl (ca 0, 3001, .inl x12_8)), (q14, .inr (11, rg 19 x15_0))] H16 := hP16
  have hD16 : va_D A [(a0, .inr (12, rg 10 f16)), (q1, .inr (0, rg 3 x2_0)), (x2_1, .inl (ca 0, 3000, .inl x2_2)), (q4, .inl (ca 0, 20, .inl f4)), (q6, .inr (0, rg 3 x7_0)), (x7_1, .inl (ca 0, 20480, .inl x7_2)), (q9, .inl (ca 4, 2, .inr (.inr (.inr (.inr f9))))), (q11, .inr (3, rg 22 x12_0)), (x12_1, .inr (10, rg 9 x12_2)), (x12_3, .inl (ca 1, 3001, .inr (.inl x12_4))), (x12_5, .inl (ca 0, 3001, .inl x12_6)), (x12_7, .inl (ca 0, 3001, .inl x12_8)), (q14, .inr (11, rg 19 x15_0))] := hD16
  clear hP15 hD15 hS15 hF13 hM13 hm16
  have hP17 := hP16.sub (ws' := [(a0, .inr (12, rg 10 f16)), (q1, .inr (0, rg 3 x2_0)), (x2_1, .inl (ca 0, 3000, .inl x2_2)), (q4, .inl (ca 0, 20, .inl f4)), (q6, .inr (0, rg 3 x7_0)), (x7_1, .inl (ca 0, 20480, .inl x7_2)), (q9, .inl (ca 4, 2, .inr (.inr (.inr (.inr f9))))), (q11, .inr (3, rg 22 x12_0)), (x12_1, .inr (10, rg 9 x12_2)), (x12_3, .inl (ca 1, 3001, .inr (.inl x12_4))), (x12_5, .inl (ca 0, 3001, .inl x12_6)), (x12_7, .inl (ca 0, 3001, .inl x12_8))]) [0, 1, 2, 3, 4, 5, 6, 7, 8, 9, 10, 11] rfl
  have hD17 := hD16.sub (ws' := [(a0, .inr (12, rg 10 f16)), (q1, .inr (0, rg 3 x2_0)), (x2_1, .inl (ca 0, 3000, .inl x2_2)), (q4, .inl (ca 0, 20, .inl f4)), (q6, .inr (0, rg 3 x7_0)), (x7_1, .inl (ca 0, 20480, .inl x7_2)), (q9, .inl (ca 4, 2, .inr (.inr (.inr (.inr f9))))), (q11, .inr (3, rg 22 x12_0)), (x12_1, .inr (10, rg 9 x12_2)), (x12_3, .inl (ca 1, 3001, .inr (.inl x12_4))), (x12_5, .inl (ca 0, 3001, .inl x12_6)), (x12_7, .inl (ca 0, 3001, .inl x12_8))]) [0, 1, 2, 3, 4, 5, 6, 7, 8, 9, 10, 11] (by decide) rfl
  refine lv_aload_n hx hb d_1_1_70 rfl (lv_at hl 0 rfl) ?_
  refine gnew (L := []) (C := RX7) (T := TX7) (N := 9) (ci := 7) hx hb hts inW_7 tyX7 tyX7_ok hown k_2_8 k_2_9 k_1_7 hK hP17 hD17 hS16 hA rfl (Nat.le_of_ble_eq_true rfl) (Nat.le_of_ble_eq_true rfl) d_1_1_71 (gF_nil) (fun f18 q18 H18 hF18 hP18 hD18 hS18 => ?_)
  have hP18 : va_P D cls [(a0, .inr (12, rg 10 f16)), (q1, .inr (0, rg 3 x2_0)), (x2_1, .inl (ca 0, 3000, .inl x2_2)), (q4, .inl (ca 0, 20, .inl f4)), (q6, .inr (0, rg 3 x7_0)), (x7_1, .inl (ca 0, 20480, .inl x7_2)), (q9, .inl (ca 4, 2, .inr (.inr (.inr (.inr f9))))), (q11, .inr (3, rg 22 x12_0)), (x12_1, .inr (10, rg 9 x12_2)), (x12_3, .inl (ca 1, 3001, .inr (.inl x12_4))), (x12_5, .inl (ca 0, 3001, .inl x12_6)), (x12_7, .inl (ca 0, 3001, .inl x12_8)), (q18, .inr (7, rg 9 f18))] H18 := hP18
  have hD18 : va_D A [(a0, .inr (12, rg 10 f16)), (q1, .inr (0, rg 3 x2_0)), (x2_1, .inl (ca 0, 3000, .inl x2_2)), (q4, .inl (ca 0, 20, .inl f4)), (q6, .inr (0, rg 3 x7_0)), (x7_1, .inl (ca 0, 20480, .inl x7_2)), (q9, .inl (ca 4, 2, .inr (.inr (.inr (.inr f9))))), (q11, .inr (3, rg 22 x12_0)), (x12_1, .inr (10, rg 9 x12_2)), (x12_3, .inl (ca 1, 3001, .inr (.inl x12_4))), (x12_5, .inl (ca 0, 3001, .inl x12_6)), (x12_7, .inl (ca 0, 3001, .inl x12_8)), (q18, .inr (7, rg 9 f18))] := hD18
  refine W.widen (k := 30) (n := 61278) (Nat.le_of_ble_eq_true rfl) (Nat.le_of_ble_eq_true rfl) ?_
  refine lv_dup hx hb d_1_1_74 rfl ?_
  have hFc19 := va_free (wc := [(q18, .inr (7, rg 9 f18))]) hD18 hS18 hA [12] rfl
  refine va_callv (va_runIN (As := []) (rest := [.ref q18, .ref a0]) ⟨hx, hb, hml, hown, hts⟩ (c_Scribe_init_0 l D ca ad av H18.size q18 f18 (hF18.sub [] rfl)) ⟨va_cnB 0 hts (gdC k_2_12) rfl rfl rfl (hX.1 _ (List.mem_of_getElem? (i := 3) rfl)) (hts _ k_1_7) (by decide +kernel) ⟨Nat.le_of_ble_eq_true rfl, Nat.le_of_ble_eq_true rfl⟩, rfl, hts _ k_2_11⟩ (gPS hP18 hD18 hK hS18 hA hX [12] (by decide) rfl [.ref q18]) rfl rfl hl.1 rfl (lv_room (Nat.le_of_ble_eq_true rfl)) d_1_1_75 ⟨Nat.le_of_ble_eq_true rfl, Nat.le_of_ble_eq_true rfl⟩) hS18 (fun q _ h => hFc19 q h) hFc19 (fun x19_0 t19 H19 locs19 ht19 hvm19 hw19 hB19 hz19 hk19 hS19 => ?_)
  obtain ⟨hw19_0, hw19_1⟩ := hw19
  obtain ⟨hP19, hD19⟩ := gJoin (wr := [(a0, .inr (12, rg 10 f16)), (q1, .inr (0, rg 3 x2_0)), (x2_1, .inl (ca 0, 3000, .inl x2_2)), (q4, .inl (ca 0, 20, .inl f4)), (q6, .inr (0, rg 3 x7_0)), (x7_1, .inl (ca 0, 20480, .inl x7_2)), (q9, .inl (ca 4, 2, .inr (.inr (.inr (.inr f9))))), (q11, .inr (3, rg 22 x12_0)), (x12_1, .inr (10, rg 9 x12_2)), (x12_3, .inl (ca 1, 3001, .inr (.inl x12_4))), (x12_5, .inl (ca 0, 3001, .inl x12_6)), (x12_7, .inl (ca 0, 3001, .inl x12_8))]) (w1 := [(q18, .inr (7, rg 9 x19_0))]) hP18 hD18 [12] [0, 1, 2, 3, 4, 5, 6, 7, 8, 9, 10, 11] rfl rfl (by decide) (by decide) hk19 hFc19 ht19 hB19
  have hF19_0 : gF x19_0 [] := gF.upd hF18 hw19_0 hw19_1 rfl
  have hP19 : va_P D cls [(a0, .inr (12, rg 10 f16)), (q1, .inr (0, rg 3 x2_0)), (x2_1, .inl (ca 0, 3000, .inl x2_2)), (q4, .inl (ca 0, 20, .inl f4)), (q6, .inr (0, rg 3 x7_0)), (x7_1, .inl (ca 0, 20480, .inl x7_2)), (q9, .inl (ca 4, 2, .inr (.inr (.inr (.inr f9))))), (q11, .inr (3, rg 22 x12_0)), (x12_1, .inr (10, rg 9 x12_2)), (x12_3, .inl (ca 1, 3001, .inr (.inl x12_4))), (x12_5, .inl (ca 0, 3001, .inl x12_6)), (x12_7, .inl (ca 0, 3001, .inl x12_8)), (q18, .inr (7, rg 9 x19_0))] H19 := hP19
  have hD19 : va_D A [(a0, .inr (12, rg 10 f16)), (q1, .inr (0, rg 3 x2_0)), (x2_1, .inl (ca 0, 3000, .inl x2_2)), (q4, .inl (ca 0, 20, .inl f4)), (q6, .inr (0, rg 3 x7_0)), (x7_1, .inl (ca 0, 20480, .inl x7_2)), (q9, .inl (ca 4, 2, .inr (.inr (.inr (.inr f9))))), (q11, .inr (3, rg 22 x12_0)), (x12_1, .inr (10, rg 9 x12_2)), (x12_3, .inl (ca 1, 3001, .inr (.inl x12_4))), (x12_5, .inl (ca 0, 3001, .inl x12_6)), (x12_7, .inl (ca 0, 3001, .inl x12_8)), (q18, .inr (7, rg 9 x19_0))] := hD19
  refine W.widen (k := 34) (n := 61432) (Nat.le_of_ble_eq_true rfl) (Nat.le_of_ble_eq_true rfl) ?_
  refine gputFX hx hb hts inW_12 tyX12 tyX12_ok nmX12 hown hK hP19 hD19 hS19 0 rfl rfl hF16 6 (by decide) k_2_133 rfl hnm rfl rfl rfl d_1_1_78 (L' := [(4, .ref q11), (3, .ref q9), (2, .ref q6), (1, .ref q4), (0, .ref q1)]) rfl (fun f20 H20 locs20 hF20 hm20 hP20 hD20 hS20 => ?_)
  have hM20 := gM.tr hM16 hm20
  have hP20 : va_P D cls [(a0, .inr (12, rg 10 f20)), (q1, .inr (0, rg 3 x2_0)), (x2_1, .inl (ca 0, 3000, .inl x2_2)), (q4, .inl (ca 0, 20, .inl f4)), (q6, .inr (0, rg 3 x7_0)), (x7_1, .inl (ca 0, 20480, .inl x7_2)), (q9, .inl (ca 4, 2, .inr (.inr (.inr (.inr f9))))), (q11, .inr (3, rg 22 x12_0)), (x12_1, .inr (10, rg 9 x12_2)), (x12_3, .inl (ca 1, 3001, .inr (.inl x12_4))), (x12_5, .inl (ca 0, 3001, .inl x12_6)), (x12_7, .inl (ca 0, 3001, .inl x12_8)), (q18, .inr (7, rg 9 x19_0))] H20 := hP20
  have hD20 : va_D A [(a0, .inr (12, rg 10 f20)), (q1, .inr (0, rg 3 x2_0)), (x2_1, .inl (ca 0, 3000, .inl x2_2)), (q4, .inl (ca 0, 20, .inl f4)), (q6, .inr (0, rg 3 x7_0)), (x7_1, .inl (ca 0, 20480, .inl x7_2)), (q9, .inl (ca 4, 2, .inr (.inr (.inr (.inr f9))))), (q11, .inr (3, rg 22 x12_0)), (x12_1, .inr (10, rg 9 x12_2)), (x12_3, .inl (ca 1, 3001, .inr (.inl x12_4))), (x12_5, .inl (ca 0, 3001, .inl x12_6)), (x12_7, .inl (ca 0, 3001, .inl x12_8)), (q18, .inr (7, rg 9 x19_0))] := hD20
  clear hP19 hD19 hS19 hF16 hM16 hm20
  have hP21 := hP20.sub (ws' := [(a0, .inr (12, rg 10 f20)), (q1, .inr (0, rg 3 x2_0)), (x2_1, .inl (ca 0, 3000, .inl x2_2)), (q4, .inl (ca 0, 20, .inl f4)), (q6, .inr (0, rg 3 x7_0)), (x7_1, .inl (ca 0, 20480, .inl x7_2)), (q9, .inl (ca 4, 2, .inr (.inr (.inr (.inr f9))))), (q11, .inr (3, rg 22 x12_0)), (x12_1, .inr (10, rg 9 x12_2)), (x12_3, .inl (ca 1, 3001, .inr (.inl x12_4))), (x12_5, .inl (ca 0, 3001, .inl x12_6)), (x12_7, .inl (ca 0, 3001, .inl x12_8))]) [0, 1, 2, 3, 4, 5, 6, 7, 8, 9, 10, 11] rfl
  have hD21 := hD20.sub (ws' := [(a0, .inr (12, rg 10 f20)), (q1, .inr (0, rg 3 x2_0)), (x2_1, .inl (ca 0, 3000, .inl x2_2)), (q4, .inl (ca 0, 20, .inl f4)), (q6, .inr (0, rg 3 x7_0)), (x7_1, .inl (ca 0, 20480, .inl x7_2)), (q9, .inl (ca 4, 2, .inr (.inr (.inr (.inr f9))))), (q11, .inr (3, rg 22 x12_0)), (x12_1, .inr (10, rg 9 x12_2)), (x12_3, .inl (ca 1, 3001, .inr (.inl x12_4))), (x12_5, .inl (ca 0, 3001, .inl x12_6)), (x12_7, .inl (ca 0, 3001, .inl x12_8))]) [0, 1, 2, 3, 4, 5, 6, 7, 8, 9, 10, 11] (by decide) rfl
  have hP9 := hP21.sub (ws' := [(a0, .inr (12, rg 10 f20)), (q11, .inr (3, rg 22 x12_0)), (q9, .inl (ca 4, 2, .inr (.inr (.inr (.inr f9))))), (q6, .inr (0, rg 3 x7_0)), (q4, .inl (ca 0, 20, .inl f4)), (q1, .inr (0, rg 3 x2_0)), (x12_1, .inr (10, rg 9 x12_2)), (x7_1, .inl (ca 0, 20480, .inl x7_2)), (x2_1, .inl (ca 0, 3000, .inl x2_2)), (x12_3, .inl (ca 1, 3001, .inr (.inl x12_4))), (x12_5, .inl (ca 0, 3001, .inl x12_6)), (x12_7, .inl (ca 0, 3001, .inl x12_8))]) [0, 7, 6, 4, 3, 1, 8, 5, 2, 9, 10, 11] rfl
  have hD9 := hD21.sub (ws' := [(a0, .inr (12, rg 10 f20)), (q11, .inr (3, rg 22 x12_0)), (q9, .inl (ca 4, 2, .inr (.inr (.inr (.inr f9))))), (q6, .inr (0, rg 3 x7_0)), (q4, .inl (ca 0, 20, .inl f4)), (q1, .inr (0, rg 3 x2_0)), (x12_1, .inr (10, rg 9 x12_2)), (x7_1, .inl (ca 0, 20480, .inl x7_2)), (x2_1, .inl (ca 0, 3000, .inl x2_2)), (x12_3, .inl (ca 1, 3001, .inr (.inl x12_4))), (x12_5, .inl (ca 0, 3001, .inl x12_6)), (x12_7, .inl (ca 0, 3001, .inl x12_8))]) [0, 7, 6, 4, 3, 1, 8, 5, 2, 9, 10, 11] (by decide) rfl
  refine W.widen (k := 34) (n := 61432) (Nat.le_of_ble_eq_true rfl) (Nat.le_of_ble_eq_true rfl) ?_
  exact W.vret hx hb hr (fun t ht hW => ⟨⟨(f20, q11, x12_0, q9, f9, q6, x7_0, q4, f4, q1, x2_0, x12_1, x12_2, x7_1, x7_2, x2_1, x2_2, x12_3, x12_4, x12_5, x12_6, x12_7, x12_8), rfl, ⟨hM20.mono (by decide), hF20.sub [0, 1, 2, 3, 4] rfl, hF12_0.sub [0, 1, 2] rfl, hF9.sub [0, 1] rfl, hF7_0.sub [0, 1, 2] rfl, hF4.sub [] rfl, hF2_0.sub [0, 1, 2] rfl, hw12_2.sub [0, 1, 2, 3, 4, 5, 6] rfl, hw7_2.sub [] rfl, hw2_2.sub [] rfl, hw12_3.sub [] rfl, hw12_4.sub [] rfl, hw12_5.sub [] rfl⟩, by rw [ht]; exact hP9, va_K.moved hW.alike hK, hD9⟩, hS20.F ht⟩) hS20.2.2 d_1_1_81
end
