section
-- ===== PART A: goes FIRST, ahead of the names: the tables' words, and 'selects' of the private methods out of them =====
/-- a private method of a class that the tables say can be made, by its rows of tables_1 -/
def lw_okq (q : MethodName × Nat) : Prop := (q.1.cls ≠ "java/lang/invoke/MethodHandle" ∧ q.1.cls ≠ "java/lang/invoke/VarHandle") ∧ Cond.instantiable q.1.cls q.2 ∈ tables_1 ∧ Cond.privateMethod q.1 ∈ tables_1 ∧ Cond.instanceMethod q.1 ∈ tables_1
theorem lw_p0 : lw_okq (⟨"StaveHouse", "waitWord", "(II)V"⟩, 10) := ⟨⟨by decide +kernel, by decide +kernel⟩, List.mem_of_getElem? (i := 25) (by decide +kernel), List.mem_of_getElem? (i := 403) (by decide +kernel), List.mem_of_getElem? (i := 404) (by decide +kernel)⟩
theorem lw_p1 : lw_okq (⟨"StaveHouse$Tokens", "keepRun", "(LStaveHouse$ByteRow;III)V"⟩, 9) := ⟨⟨by decide +kernel, by decide +kernel⟩, List.mem_of_getElem? (i := 67) (by decide +kernel), List.mem_of_getElem? (i := 534) (by decide +kernel), List.mem_of_getElem? (i := 535) (by decide +kernel)⟩
theorem lw_p2 : lw_okq (⟨"StaveHouse$Parser", "beginsHead", "()Z"⟩, 22) := ⟨⟨by decide +kernel, by decide +kernel⟩, List.mem_of_getElem? (i := 61) (by decide +kernel), List.mem_of_getElem? (i := 636) (by decide +kernel), List.mem_of_getElem? (i := 637) (by decide +kernel)⟩
theorem lw_p3 : lw_okq (⟨"StaveHouse$Parser", "headSort", "()I"⟩, 22) := ⟨⟨by decide +kernel, by decide +kernel⟩, List.mem_of_getElem? (i := 61) (by decide +kernel), List.mem_of_getElem? (i := 645) (by decide +kernel), List.mem_of_getElem? (i := 646) (by decide +kernel)⟩
theorem lw_p4 : lw_okq (⟨"StaveHouse$Parser", "takeLet", "()Z"⟩, 22) := ⟨⟨by decide +kernel, by decide +kernel⟩, List.mem_of_getElem? (i := 61) (by decide +kernel), List.mem_of_getElem? (i := 652) (by decide +kernel), List.mem_of_getElem? (i := 653) (by decide +kernel)⟩
theorem lw_p5 : lw_okq (⟨"StaveHouse$Parser", "newItem", "(I)I"⟩, 22) := ⟨⟨by decide +kernel, by decide +kernel⟩, List.mem_of_getElem? (i := 61) (by decide +kernel), List.mem_of_getElem? (i := 656) (by decide +kernel), List.mem_of_getElem? (i := 657) (by decide +kernel)⟩
theorem lw_p6 : lw_okq (⟨"StaveHouse$Parser", "isName", "()Z"⟩, 22) := ⟨⟨by decide +kernel, by decide +kernel⟩, List.mem_of_getElem? (i := 61) (by decide +kernel), List.mem_of_getElem? (i := 662) (by decide +kernel), List.mem_of_getElem? (i := 663) (by decide +kernel)⟩
theorem lw_p7 : lw_okq (⟨"StaveHouse$Parser", "refuse", "(I)Z"⟩, 22) := ⟨⟨by decide +kernel, by decide +kernel⟩, List.mem_of_getElem? (i := 61) (by decide +kernel), List.mem_of_getElem? (i := 677) (by decide +kernel), List.mem_of_getElem? (i := 678) (by decide +kernel)⟩
theorem lw_p8 : lw_okq (⟨"StaveHouse$Parser", "letNamed", "(J)I"⟩, 22) := ⟨⟨by decide +kernel, by decide +kernel⟩, List.mem_of_getElem? (i := 61) (by decide +kernel), List.mem_of_getElem? (i := 681) (by decide +kernel), List.mem_of_getElem? (i := 682) (by decide +kernel)⟩
theorem lw_p9 : lw_okq (⟨"StaveHouse$Parser", "takeSign", "(C)Z"⟩, 22) := ⟨⟨by decide +kernel, by decide +kernel⟩, List.mem_of_getElem? (i := 61) (by decide +kernel), List.mem_of_getElem? (i := 685) (by decide +kernel), List.mem_of_getElem? (i := 686) (by decide +kernel)⟩
theorem lw_p10 : lw_okq (⟨"StaveHouse$Parser", "takeBlock", "(I)Z"⟩, 22) := ⟨⟨by decide +kernel, by decide +kernel⟩, List.mem_of_getElem? (i := 61) (by decide +kernel), List.mem_of_getElem? (i := 693) (by decide +kernel), List.mem_of_getElem? (i := 694) (by decide +kernel)⟩
theorem lw_p11 : lw_okq (⟨"StaveHouse$Parser", "takeOpening", "(C)Z"⟩, 22) := ⟨⟨by decide +kernel, by decide +kernel⟩, List.mem_of_getElem? (i := 61) (by decide +kernel), List.mem_of_getElem? (i := 697) (by decide +kernel), List.mem_of_getElem? (i := 698) (by decide +kernel)⟩
theorem lw_p12 : lw_okq (⟨"StaveHouse$Parser", "takeMusic", "(I)Z"⟩, 22) := ⟨⟨by decide +kernel, by decide +kernel⟩, List.mem_of_getElem? (i := 61) (by decide +kernel), List.mem_of_getElem? (i := 701) (by decide +kernel), List.mem_of_getElem? (i := 702) (by decide +kernel)⟩
theorem lw_p13 : lw_okq (⟨"StaveHouse$Parser", "itemSort", "()I"⟩, 22) := ⟨⟨by decide +kernel, by decide +kernel⟩, List.mem_of_getElem? (i := 61) (by decide +kernel), List.mem_of_getElem? (i := 705) (by decide +kernel), List.mem_of_getElem? (i := 706) (by decide +kernel)⟩
theorem lw_p14 : lw_okq (⟨"StaveHouse$Parser", "takeItem", "(I)Z"⟩, 22) := ⟨⟨by decide +kernel, by decide +kernel⟩, List.mem_of_getElem? (i := 61) (by decide +kernel), List.mem_of_getElem? (i := 710) (by decide +kernel), List.mem_of_getElem? (i := 711) (by decide +kernel)⟩
theorem lw_p15 : lw_okq (⟨"StaveHouse$Parser", "takeEvent", "(I)Z"⟩, 22) := ⟨⟨by decide +kernel, by decide +kernel⟩, List.mem_of_getElem? (i := 61) (by decide +kernel), List.mem_of_getElem? (i := 714) (by decide +kernel), List.mem_of_getElem? (i := 715) (by decide +kernel)⟩
def lw_privs_1 : List (MethodName × Nat) := [(⟨"StaveHouse", "waitWord", "(II)V"⟩, 10), (⟨"StaveHouse$Tokens", "keepRun", "(LStaveHouse$ByteRow;III)V"⟩, 9), (⟨"StaveHouse$Parser", "beginsHead", "()Z"⟩, 22), (⟨"StaveHouse$Parser", "headSort", "()I"⟩, 22), (⟨"StaveHouse$Parser", "takeLet", "()Z"⟩, 22), (⟨"StaveHouse$Parser", "newItem", "(I)I"⟩, 22), (⟨"StaveHouse$Parser", "isName", "()Z"⟩, 22), (⟨"StaveHouse$Parser", "refuse", "(I)Z"⟩, 22), (⟨"StaveHouse$Parser", "letNamed", "(J)I"⟩, 22), (⟨"StaveHouse$Parser", "takeSign", "(C)Z"⟩, 22), (⟨"StaveHouse$Parser", "takeBlock", "(I)Z"⟩, 22), (⟨"StaveHouse$Parser", "takeOpening", "(C)Z"⟩, 22), (⟨"StaveHouse$Parser", "takeMusic", "(I)Z"⟩, 22), (⟨"StaveHouse$Parser", "itemSort", "()I"⟩, 22), (⟨"StaveHouse$Parser", "takeItem", "(I)Z"⟩, 22), (⟨"StaveHouse$Parser", "takeEvent", "(I)Z"⟩, 22)]
theorem lw_r1 : ∀ q ∈ lw_privs_1, lw_okq q := List.forall_mem_cons.mpr ⟨lw_p0, List.forall_mem_cons.mpr ⟨lw_p1, List.forall_mem_cons.mpr ⟨lw_p2, List.forall_mem_cons.mpr ⟨lw_p3, List.forall_mem_cons.mpr ⟨lw_p4, List.forall_mem_cons.mpr ⟨lw_p5, List.forall_mem_cons.mpr ⟨lw_p6, List.forall_mem_cons.mpr ⟨lw_p7, List.forall_mem_cons.mpr ⟨lw_p8, List.forall_mem_cons.mpr ⟨lw_p9, List.forall_mem_cons.mpr ⟨lw_p10, List.forall_mem_cons.mpr ⟨lw_p11, List.forall_mem_cons.mpr ⟨lw_p12, List.forall_mem_cons.mpr ⟨lw_p13, List.forall_mem_cons.mpr ⟨lw_p14, List.forall_mem_cons.mpr ⟨lw_p15, fun _ h => absurd h List.not_mem_nil⟩⟩⟩⟩⟩⟩⟩⟩⟩⟩⟩⟩⟩⟩⟩⟩
theorem lw_p16 : lw_okq (⟨"StaveHouse$Parser", "takePitch", "(I)V"⟩, 22) := ⟨⟨by decide +kernel, by decide +kernel⟩, List.mem_of_getElem? (i := 61) (by decide +kernel), List.mem_of_getElem? (i := 718) (by decide +kernel), List.mem_of_getElem? (i := 719) (by decide +kernel)⟩
theorem lw_p17 : lw_okq (⟨"StaveHouse$Parser", "takeChord", "(I)Z"⟩, 22) := ⟨⟨by decide +kernel, by decide +kernel⟩, List.mem_of_getElem? (i := 61) (by decide +kernel), List.mem_of_getElem? (i := 722) (by decide +kernel), List.mem_of_getElem? (i := 723) (by decide +kernel)⟩
theorem lw_p18 : lw_okq (⟨"StaveHouse$Parser", "takeLength", "()Z"⟩, 22) := ⟨⟨by decide +kernel, by decide +kernel⟩, List.mem_of_getElem? (i := 61) (by decide +kernel), List.mem_of_getElem? (i := 726) (by decide +kernel), List.mem_of_getElem? (i := 727) (by decide +kernel)⟩
theorem lw_p19 : lw_okq (⟨"StaveHouse$Parser", "takeNumber", "(IIZ)Z"⟩, 22) := ⟨⟨by decide +kernel, by decide +kernel⟩, List.mem_of_getElem? (i := 61) (by decide +kernel), List.mem_of_getElem? (i := 730) (by decide +kernel), List.mem_of_getElem? (i := 731) (by decide +kernel)⟩
theorem lw_p20 : lw_okq (⟨"StaveHouse$Parser", "takeMarks", "(I)V"⟩, 22) := ⟨⟨by decide +kernel, by decide +kernel⟩, List.mem_of_getElem? (i := 61) (by decide +kernel), List.mem_of_getElem? (i := 743) (by decide +kernel), List.mem_of_getElem? (i := 744) (by decide +kernel)⟩
theorem lw_p21 : lw_okq (⟨"StaveHouse$Parser", "takeBracket", "(I)Z"⟩, 22) := ⟨⟨by decide +kernel, by decide +kernel⟩, List.mem_of_getElem? (i := 61) (by decide +kernel), List.mem_of_getElem? (i := 750) (by decide +kernel), List.mem_of_getElem? (i := 751) (by decide +kernel)⟩
theorem lw_p22 : lw_okq (⟨"StaveHouse$Parser", "takeFraction", "(III)Z"⟩, 22) := ⟨⟨by decide +kernel, by decide +kernel⟩, List.mem_of_getElem? (i := 61) (by decide +kernel), List.mem_of_getElem? (i := 754) (by decide +kernel), List.mem_of_getElem? (i := 755) (by decide +kernel)⟩
theorem lw_p23 : lw_okq (⟨"StaveHouse$Parser", "takeClosing", "(C)Z"⟩, 22) := ⟨⟨by decide +kernel, by decide +kernel⟩, List.mem_of_getElem? (i := 61) (by decide +kernel), List.mem_of_getElem? (i := 758) (by decide +kernel), List.mem_of_getElem? (i := 759) (by decide +kernel)⟩
theorem lw_p24 : lw_okq (⟨"StaveHouse$Parser", "takeLoud", "(I)Z"⟩, 22) := ⟨⟨by decide +kernel, by decide +kernel⟩, List.mem_of_getElem? (i := 61) (by decide +kernel), List.mem_of_getElem? (i := 762) (by decide +kernel), List.mem_of_getElem? (i := 763) (by decide +kernel)⟩
theorem lw_p25 : lw_okq (⟨"StaveHouse$Parser", "takeRepeat", "(I)Z"⟩, 22) := ⟨⟨by decide +kernel, by decide +kernel⟩, List.mem_of_getElem? (i := 61) (by decide +kernel), List.mem_of_getElem? (i := 766) (by decide +kernel), List.mem_of_getElem? (i := 767) (by decide +kernel)⟩
theorem lw_p26 : lw_okq (⟨"StaveHouse$Parser", "takeAlternatives", "(I)Z"⟩, 22) := ⟨⟨by decide +kernel, by decide +kernel⟩, List.mem_of_getElem? (i := 61) (by decide +kernel), List.mem_of_getElem? (i := 771) (by decide +kernel), List.mem_of_getElem? (i := 772) (by decide +kernel)⟩
theorem lw_p27 : lw_okq (⟨"StaveHouse$Parser", "takeUse", "(I)Z"⟩, 22) := ⟨⟨by decide +kernel, by decide +kernel⟩, List.mem_of_getElem? (i := 61) (by decide +kernel), List.mem_of_getElem? (i := 775) (by decide +kernel), List.mem_of_getElem? (i := 776) (by decide +kernel)⟩
theorem lw_p28 : lw_okq (⟨"StaveHouse$Parser", "takeMove", "(I)Z"⟩, 22) := ⟨⟨by decide +kernel, by decide +kernel⟩, List.mem_of_getElem? (i := 61) (by decide +kernel), List.mem_of_getElem? (i := 779) (by decide +kernel), List.mem_of_getElem? (i := 780) (by decide +kernel)⟩
theorem lw_p29 : lw_okq (⟨"StaveHouse$Parser", "takeMirror", "(I)Z"⟩, 22) := ⟨⟨by decide +kernel, by decide +kernel⟩, List.mem_of_getElem? (i := 61) (by decide +kernel), List.mem_of_getElem? (i := 794) (by decide +kernel), List.mem_of_getElem? (i := 795) (by decide +kernel)⟩
theorem lw_p30 : lw_okq (⟨"StaveHouse$Parser", "takeHead", "(LStaveHouse$Piece;)Z"⟩, 22) := ⟨⟨by decide +kernel, by decide +kernel⟩, List.mem_of_getElem? (i := 61) (by decide +kernel), List.mem_of_getElem? (i := 798) (by decide +kernel), List.mem_of_getElem? (i := 799) (by decide +kernel)⟩
theorem lw_p31 : lw_okq (⟨"StaveHouse$Parser", "takeKey", "(LStaveHouse$Piece;)Z"⟩, 22) := ⟨⟨by decide +kernel, by decide +kernel⟩, List.mem_of_getElem? (i := 61) (by decide +kernel), List.mem_of_getElem? (i := 802) (by decide +kernel), List.mem_of_getElem? (i := 803) (by decide +kernel)⟩
def lw_privs_2 : List (MethodName × Nat) := [(⟨"StaveHouse$Parser", "takePitch", "(I)V"⟩, 22), (⟨"StaveHouse$Parser", "takeChord", "(I)Z"⟩, 22), (⟨"StaveHouse$Parser", "takeLength", "()Z"⟩, 22), (⟨"StaveHouse$Parser", "takeNumber", "(IIZ)Z"⟩, 22), (⟨"StaveHouse$Parser", "takeMarks", "(I)V"⟩, 22), (⟨"StaveHouse$Parser", "takeBracket", "(I)Z"⟩, 22), (⟨"StaveHouse$Parser", "takeFraction", "(III)Z"⟩, 22), (⟨"StaveHouse$Parser", "takeClosing", "(C)Z"⟩, 22), (⟨"StaveHouse$Parser", "takeLoud", "(I)Z"⟩, 22), (⟨"StaveHouse$Parser", "takeRepeat", "(I)Z"⟩, 22), (⟨"StaveHouse$Parser", "takeAlternatives", "(I)Z"⟩, 22), (⟨"StaveHouse$Parser", "takeUse", "(I)Z"⟩, 22), (⟨"StaveHouse$Parser", "takeMove", "(I)Z"⟩, 22), (⟨"StaveHouse$Parser", "takeMirror", "(I)Z"⟩, 22), (⟨"StaveHouse$Parser", "takeHead", "(LStaveHouse$Piece;)Z"⟩, 22), (⟨"StaveHouse$Parser", "takeKey", "(LStaveHouse$Piece;)Z"⟩, 22)]
theorem lw_r2 : ∀ q ∈ lw_privs_2, lw_okq q := List.forall_mem_cons.mpr ⟨lw_p16, List.forall_mem_cons.mpr ⟨lw_p17, List.forall_mem_cons.mpr ⟨lw_p18, List.forall_mem_cons.mpr ⟨lw_p19, List.forall_mem_cons.mpr ⟨lw_p20, List.forall_mem_cons.mpr ⟨lw_p21, List.forall_mem_cons.mpr ⟨lw_p22, List.forall_mem_cons.mpr ⟨lw_p23, List.forall_mem_cons.mpr ⟨lw_p24, List.forall_mem_cons.mpr ⟨lw_p25, List.forall_mem_cons.mpr ⟨lw_p26, List.forall_mem_cons.mpr ⟨lw_p27, List.forall_mem_cons.mpr ⟨lw_p28, List.forall_mem_cons.mpr ⟨lw_p29, List.forall_mem_cons.mpr ⟨lw_p30, List.forall_mem_cons.mpr ⟨lw_p31, fun _ h => absurd h List.not_mem_nil⟩⟩⟩⟩⟩⟩⟩⟩⟩⟩⟩⟩⟩⟩⟩⟩
theorem lw_p32 : lw_okq (⟨"StaveHouse$Parser", "takeTime", "(LStaveHouse$Piece;)Z"⟩, 22) := ⟨⟨by decide +kernel, by decide +kernel⟩, List.mem_of_getElem? (i := 61) (by decide +kernel), List.mem_of_getElem? (i := 808) (by decide +kernel), List.mem_of_getElem? (i := 809) (by decide +kernel)⟩
theorem lw_p33 : lw_okq (⟨"StaveHouse$Parser", "takeVoice", "(LStaveHouse$Piece;)Z"⟩, 22) := ⟨⟨by decide +kernel, by decide +kernel⟩, List.mem_of_getElem? (i := 61) (by decide +kernel), List.mem_of_getElem? (i := 813) (by decide +kernel), List.mem_of_getElem? (i := 814) (by decide +kernel)⟩
theorem lw_p34 : lw_okq (⟨"StaveHouse$Walker", "goThrough", "(II)V"⟩, 19) := ⟨⟨by decide +kernel, by decide +kernel⟩, List.mem_of_getElem? (i := 185) (by decide +kernel), List.mem_of_getElem? (i := 917) (by decide +kernel), List.mem_of_getElem? (i := 918) (by decide +kernel)⟩
theorem lw_p35 : lw_okq (⟨"StaveHouse$Walker", "countItem", "(I)V"⟩, 19) := ⟨⟨by decide +kernel, by decide +kernel⟩, List.mem_of_getElem? (i := 185) (by decide +kernel), List.mem_of_getElem? (i := 921) (by decide +kernel), List.mem_of_getElem? (i := 922) (by decide +kernel)⟩
theorem lw_p36 : lw_okq (⟨"StaveHouse$Walker", "refuse", "(II)V"⟩, 19) := ⟨⟨by decide +kernel, by decide +kernel⟩, List.mem_of_getElem? (i := 185) (by decide +kernel), List.mem_of_getElem? (i := 925) (by decide +kernel), List.mem_of_getElem? (i := 926) (by decide +kernel)⟩
theorem lw_p37 : lw_okq (⟨"StaveHouse$Walker", "goItem", "(II)V"⟩, 19) := ⟨⟨by decide +kernel, by decide +kernel⟩, List.mem_of_getElem? (i := 185) (by decide +kernel), List.mem_of_getElem? (i := 929) (by decide +kernel), List.mem_of_getElem? (i := 930) (by decide +kernel)⟩
theorem lw_p38 : lw_okq (⟨"StaveHouse$Walker", "makeEvent", "(I)V"⟩, 19) := ⟨⟨by decide +kernel, by decide +kernel⟩, List.mem_of_getElem? (i := 185) (by decide +kernel), List.mem_of_getElem? (i := 933) (by decide +kernel), List.mem_of_getElem? (i := 934) (by decide +kernel)⟩
theorem lw_p39 : lw_okq (⟨"StaveHouse$Walker", "slowed", "(I)I"⟩, 19) := ⟨⟨by decide +kernel, by decide +kernel⟩, List.mem_of_getElem? (i := 185) (by decide +kernel), List.mem_of_getElem? (i := 937) (by decide +kernel), List.mem_of_getElem? (i := 938) (by decide +kernel)⟩
theorem lw_p40 : lw_okq (⟨"StaveHouse$Walker", "addPitch", "(LStaveHouse$Event;I)V"⟩, 19) := ⟨⟨by decide +kernel, by decide +kernel⟩, List.mem_of_getElem? (i := 185) (by decide +kernel), List.mem_of_getElem? (i := 944) (by decide +kernel), List.mem_of_getElem? (i := 945) (by decide +kernel)⟩
theorem lw_p41 : lw_okq (⟨"StaveHouse$Walker", "goBracket", "(II)V"⟩, 19) := ⟨⟨by decide +kernel, by decide +kernel⟩, List.mem_of_getElem? (i := 185) (by decide +kernel), List.mem_of_getElem? (i := 956) (by decide +kernel), List.mem_of_getElem? (i := 957) (by decide +kernel)⟩
theorem lw_p42 : lw_okq (⟨"StaveHouse$Walker", "goRepeat", "(II)V"⟩, 19) := ⟨⟨by decide +kernel, by decide +kernel⟩, List.mem_of_getElem? (i := 185) (by decide +kernel), List.mem_of_getElem? (i := 960) (by decide +kernel), List.mem_of_getElem? (i := 961) (by decide +kernel)⟩
theorem lw_p43 : lw_okq (⟨"StaveHouse$Walker", "goCarried", "(III)V"⟩, 19) := ⟨⟨by decide +kernel, by decide +kernel⟩, List.mem_of_getElem? (i := 185) (by decide +kernel), List.mem_of_getElem? (i := 964) (by decide +kernel), List.mem_of_getElem? (i := 965) (by decide +kernel)⟩
theorem lw_p44 : lw_okq (⟨"StaveHouse$Walker", "goBack", "(II)V"⟩, 19) := ⟨⟨by decide +kernel, by decide +kernel⟩, List.mem_of_getElem? (i := 185) (by decide +kernel), List.mem_of_getElem? (i := 968) (by decide +kernel), List.mem_of_getElem? (i := 969) (by decide +kernel)⟩
theorem lw_p45 : lw_okq (⟨"StaveHouse$Walker", "multiplySlow", "(II)V"⟩, 19) := ⟨⟨by decide +kernel, by decide +kernel⟩, List.mem_of_getElem? (i := 185) (by decide +kernel), List.mem_of_getElem? (i := 980) (by decide +kernel), List.mem_of_getElem? (i := 981) (by decide +kernel)⟩
theorem lw_p46 : lw_okq (⟨"StaveHouse$Part", "placeEvents", "()V"⟩, 13) := ⟨⟨by decide +kernel, by decide +kernel⟩, List.mem_of_getElem? (i := 825) (by decide +kernel), List.mem_of_getElem? (i := 988) (by decide +kernel), List.mem_of_getElem? (i := 989) (by decide +kernel)⟩
theorem lw_p47 : lw_okq (⟨"StaveHouse$Part", "bracketStands", "(IJ)Z"⟩, 13) := ⟨⟨by decide +kernel, by decide +kernel⟩, List.mem_of_getElem? (i := 825) (by decide +kernel), List.mem_of_getElem? (i := 993) (by decide +kernel), List.mem_of_getElem? (i := 994) (by decide +kernel)⟩
def lw_privs_3 : List (MethodName × Nat) := [(⟨"StaveHouse$Parser", "takeTime", "(LStaveHouse$Piece;)Z"⟩, 22), (⟨"StaveHouse$Parser", "takeVoice", "(LStaveHouse$Piece;)Z"⟩, 22), (⟨"StaveHouse$Walker", "goThrough", "(II)V"⟩, 19), (⟨"StaveHouse$Walker", "countItem", "(I)V"⟩, 19), (⟨"StaveHouse$Walker", "refuse", "(II)V"⟩, 19), (⟨"StaveHouse$Walker", "goItem", "(II)V"⟩, 19), (⟨"StaveHouse$Walker", "makeEvent", "(I)V"⟩, 19), (⟨"StaveHouse$Walker", "slowed", "(I)I"⟩, 19), (⟨"StaveHouse$Walker", "addPitch", "(LStaveHouse$Event;I)V"⟩, 19), (⟨"StaveHouse$Walker", "goBracket", "(II)V"⟩, 19), (⟨"StaveHouse$Walker", "goRepeat", "(II)V"⟩, 19), (⟨"StaveHouse$Walker", "goCarried", "(III)V"⟩, 19), (⟨"StaveHouse$Walker", "goBack", "(II)V"⟩, 19), (⟨"StaveHouse$Walker", "multiplySlow", "(II)V"⟩, 19), (⟨"StaveHouse$Part", "placeEvents", "()V"⟩, 13), (⟨"StaveHouse$Part", "bracketStands", "(IJ)Z"⟩, 13)]
theorem lw_r3 : ∀ q ∈ lw_privs_3, lw_okq q := List.forall_mem_cons.mpr ⟨lw_p32, List.forall_mem_cons.mpr ⟨lw_p33, List.forall_mem_cons.mpr ⟨lw_p34, List.forall_mem_cons.mpr ⟨lw_p35, List.forall_mem_cons.mpr ⟨lw_p36, List.forall_mem_cons.mpr ⟨lw_p37, List.forall_mem_cons.mpr ⟨lw_p38, List.forall_mem_cons.mpr ⟨lw_p39, List.forall_mem_cons.mpr ⟨lw_p40, List.forall_mem_cons.mpr ⟨lw_p41, List.forall_mem_cons.mpr ⟨lw_p42, List.forall_mem_cons.mpr ⟨lw_p43, List.forall_mem_cons.mpr ⟨lw_p44, List.forall_mem_cons.mpr ⟨lw_p45, List.forall_mem_cons.mpr ⟨lw_p46, List.forall_mem_cons.mpr ⟨lw_p47, fun _ h => absurd h List.not_mem_nil⟩⟩⟩⟩⟩⟩⟩⟩⟩⟩⟩⟩⟩⟩⟩⟩
theorem lw_p48 : lw_okq (⟨"StaveHouse$Part", "writeNotes", "(LStaveHouse$Piece;)V"⟩, 13) := ⟨⟨by decide +kernel, by decide +kernel⟩, List.mem_of_getElem? (i := 825) (by decide +kernel), List.mem_of_getElem? (i := 1010) (by decide +kernel), List.mem_of_getElem? (i := 1011) (by decide +kernel)⟩
theorem lw_p49 : lw_okq (⟨"StaveHouse$Part", "cut", "(LStaveHouse$Piece;IJJ)V"⟩, 13) := ⟨⟨by decide +kernel, by decide +kernel⟩, List.mem_of_getElem? (i := 825) (by decide +kernel), List.mem_of_getElem? (i := 1014) (by decide +kernel), List.mem_of_getElem? (i := 1015) (by decide +kernel)⟩
theorem lw_p50 : lw_okq (⟨"StaveHouse$Part", "writeTuplet", "(IIJ)V"⟩, 13) := ⟨⟨by decide +kernel, by decide +kernel⟩, List.mem_of_getElem? (i := 825) (by decide +kernel), List.mem_of_getElem? (i := 1021) (by decide +kernel), List.mem_of_getElem? (i := 1022) (by decide +kernel)⟩
theorem lw_p51 : lw_okq (⟨"StaveHouse$Part", "addNote", "(IIJI)V"⟩, 13) := ⟨⟨by decide +kernel, by decide +kernel⟩, List.mem_of_getElem? (i := 825) (by decide +kernel), List.mem_of_getElem? (i := 1032) (by decide +kernel), List.mem_of_getElem? (i := 1033) (by decide +kernel)⟩
theorem lw_p52 : lw_okq (⟨"StaveHouse$Part", "writeCut", "(LStaveHouse$Piece;IJJ)V"⟩, 13) := ⟨⟨by decide +kernel, by decide +kernel⟩, List.mem_of_getElem? (i := 825) (by decide +kernel), List.mem_of_getElem? (i := 1043) (by decide +kernel), List.mem_of_getElem? (i := 1044) (by decide +kernel)⟩
theorem lw_p53 : lw_okq (⟨"StaveHouse$Part", "hold", "()V"⟩, 13) := ⟨⟨by decide +kernel, by decide +kernel⟩, List.mem_of_getElem? (i := 825) (by decide +kernel), List.mem_of_getElem? (i := 1061) (by decide +kernel), List.mem_of_getElem? (i := 1062) (by decide +kernel)⟩
theorem lw_p54 : lw_okq (⟨"StaveHouse$Part", "isRestNote", "(I)Z"⟩, 13) := ⟨⟨by decide +kernel, by decide +kernel⟩, List.mem_of_getElem? (i := 825) (by decide +kernel), List.mem_of_getElem? (i := 1065) (by decide +kernel), List.mem_of_getElem? (i := 1066) (by decide +kernel)⟩
theorem lw_p55 : lw_okq (⟨"StaveHouse$Part", "continues", "(I)Z"⟩, 13) := ⟨⟨by decide +kernel, by decide +kernel⟩, List.mem_of_getElem? (i := 825) (by decide +kernel), List.mem_of_getElem? (i := 1069) (by decide +kernel), List.mem_of_getElem? (i := 1070) (by decide +kernel)⟩
theorem lw_p56 : lw_okq (⟨"StaveHouse$Part", "setAccidentals", "(I)V"⟩, 13) := ⟨⟨by decide +kernel, by decide +kernel⟩, List.mem_of_getElem? (i := 825) (by decide +kernel), List.mem_of_getElem? (i := 1073) (by decide +kernel), List.mem_of_getElem? (i := 1074) (by decide +kernel)⟩
theorem lw_p57 : lw_okq (⟨"StaveHouse$Part", "accidentalsOf", "(I)I"⟩, 13) := ⟨⟨by decide +kernel, by decide +kernel⟩, List.mem_of_getElem? (i := 825) (by decide +kernel), List.mem_of_getElem? (i := 1082) (by decide +kernel), List.mem_of_getElem? (i := 1083) (by decide +kernel)⟩
theorem lw_p58 : lw_okq (⟨"StaveHouse$Part", "setLedgers", "()V"⟩, 13) := ⟨⟨by decide +kernel, by decide +kernel⟩, List.mem_of_getElem? (i := 825) (by decide +kernel), List.mem_of_getElem? (i := 1091) (by decide +kernel), List.mem_of_getElem? (i := 1092) (by decide +kernel)⟩
theorem lw_p59 : lw_okq (⟨"StaveHouse$Part", "greatestHeight", "(I)I"⟩, 13) := ⟨⟨by decide +kernel, by decide +kernel⟩, List.mem_of_getElem? (i := 825) (by decide +kernel), List.mem_of_getElem? (i := 1095) (by decide +kernel), List.mem_of_getElem? (i := 1096) (by decide +kernel)⟩
theorem lw_p60 : lw_okq (⟨"StaveHouse$Part", "leastHeight", "(I)I"⟩, 13) := ⟨⟨by decide +kernel, by decide +kernel⟩, List.mem_of_getElem? (i := 825) (by decide +kernel), List.mem_of_getElem? (i := 1101) (by decide +kernel), List.mem_of_getElem? (i := 1102) (by decide +kernel)⟩
theorem lw_p61 : lw_okq (⟨"StaveHouse$Part", "group", "(J)V"⟩, 13) := ⟨⟨by decide +kernel, by decide +kernel⟩, List.mem_of_getElem? (i := 825) (by decide +kernel), List.mem_of_getElem? (i := 1110) (by decide +kernel), List.mem_of_getElem? (i := 1111) (by decide +kernel)⟩
theorem lw_p62 : lw_okq (⟨"StaveHouse$Part", "isBeamed", "(I)Z"⟩, 13) := ⟨⟨by decide +kernel, by decide +kernel⟩, List.mem_of_getElem? (i := 825) (by decide +kernel), List.mem_of_getElem? (i := 1114) (by decide +kernel), List.mem_of_getElem? (i := 1115) (by decide +kernel)⟩
theorem lw_p63 : lw_okq (⟨"StaveHouse$Part", "beamsWith", "(IIJ)Z"⟩, 13) := ⟨⟨by decide +kernel, by decide +kernel⟩, List.mem_of_getElem? (i := 825) (by decide +kernel), List.mem_of_getElem? (i := 1118) (by decide +kernel), List.mem_of_getElem? (i := 1119) (by decide +kernel)⟩
def lw_privs_4 : List (MethodName × Nat) := [(⟨"StaveHouse$Part", "writeNotes", "(LStaveHouse$Piece;)V"⟩, 13), (⟨"StaveHouse$Part", "cut", "(LStaveHouse$Piece;IJJ)V"⟩, 13), (⟨"StaveHouse$Part", "writeTuplet", "(IIJ)V"⟩, 13), (⟨"StaveHouse$Part", "addNote", "(IIJI)V"⟩, 13), (⟨"StaveHouse$Part", "writeCut", "(LStaveHouse$Piece;IJJ)V"⟩, 13), (⟨"StaveHouse$Part", "hold", "()V"⟩, 13), (⟨"StaveHouse$Part", "isRestNote", "(I)Z"⟩, 13), (⟨"StaveHouse$Part", "continues", "(I)Z"⟩, 13), (⟨"StaveHouse$Part", "setAccidentals", "(I)V"⟩, 13), (⟨"StaveHouse$Part", "accidentalsOf", "(I)I"⟩, 13), (⟨"StaveHouse$Part", "setLedgers", "()V"⟩, 13), (⟨"StaveHouse$Part", "greatestHeight", "(I)I"⟩, 13), (⟨"StaveHouse$Part", "leastHeight", "(I)I"⟩, 13), (⟨"StaveHouse$Part", "group", "(J)V"⟩, 13), (⟨"StaveHouse$Part", "isBeamed", "(I)Z"⟩, 13), (⟨"StaveHouse$Part", "beamsWith", "(IIJ)Z"⟩, 13)]
theorem lw_r4 : ∀ q ∈ lw_privs_4, lw_okq q := List.forall_mem_cons.mpr ⟨lw_p48, List.forall_mem_cons.mpr ⟨lw_p49, List.forall_mem_cons.mpr ⟨lw_p50, List.forall_mem_cons.mpr ⟨lw_p51, List.forall_mem_cons.mpr ⟨lw_p52, List.forall_mem_cons.mpr ⟨lw_p53, List.forall_mem_cons.mpr ⟨lw_p54, List.forall_mem_cons.mpr ⟨lw_p55, List.forall_mem_cons.mpr ⟨lw_p56, List.forall_mem_cons.mpr ⟨lw_p57, List.forall_mem_cons.mpr ⟨lw_p58, List.forall_mem_cons.mpr ⟨lw_p59, List.forall_mem_cons.mpr ⟨lw_p60, List.forall_mem_cons.mpr ⟨lw_p61, List.forall_mem_cons.mpr ⟨lw_p62, List.forall_mem_cons.mpr ⟨lw_p63, fun _ h => absurd h List.not_mem_nil⟩⟩⟩⟩⟩⟩⟩⟩⟩⟩⟩⟩⟩⟩⟩⟩
theorem lw_p64 : lw_okq (⟨"StaveHouse$Part", "setStems", "()V"⟩, 13) := ⟨⟨by decide +kernel, by decide +kernel⟩, List.mem_of_getElem? (i := 825) (by decide +kernel), List.mem_of_getElem? (i := 1123) (by decide +kernel), List.mem_of_getElem? (i := 1124) (by decide +kernel)⟩
theorem lw_p65 : lw_okq (⟨"StaveHouse", "pieceAt", "(I)LStaveHouse$Piece;"⟩, 10) := ⟨⟨by decide +kernel, by decide +kernel⟩, List.mem_of_getElem? (i := 25) (by decide +kernel), List.mem_of_getElem? (i := 1143) (by decide +kernel), List.mem_of_getElem? (i := 1144) (by decide +kernel)⟩
theorem lw_p66 : lw_okq (⟨"StaveHouse$Study", "findMoments", "(LStaveHouse$Piece;)V"⟩, 11) := ⟨⟨by decide +kernel, by decide +kernel⟩, List.mem_of_getElem? (i := 1151) (by decide +kernel), List.mem_of_getElem? (i := 1200) (by decide +kernel), List.mem_of_getElem? (i := 1201) (by decide +kernel)⟩
theorem lw_p67 : lw_okq (⟨"StaveHouse$Study", "nextPlace", "(LStaveHouse$Piece;I)J"⟩, 11) := ⟨⟨by decide +kernel, by decide +kernel⟩, List.mem_of_getElem? (i := 1151) (by decide +kernel), List.mem_of_getElem? (i := 1205) (by decide +kernel), List.mem_of_getElem? (i := 1206) (by decide +kernel)⟩
theorem lw_p68 : lw_okq (⟨"StaveHouse$Study", "takeLines", "(LStaveHouse$Piece;I)V"⟩, 11) := ⟨⟨by decide +kernel, by decide +kernel⟩, List.mem_of_getElem? (i := 1151) (by decide +kernel), List.mem_of_getElem? (i := 1210) (by decide +kernel), List.mem_of_getElem? (i := 1211) (by decide +kernel)⟩
theorem lw_p69 : lw_okq (⟨"StaveHouse$Study", "eventOf", "(LStaveHouse$Piece;II)LStaveHouse$Event;"⟩, 11) := ⟨⟨by decide +kernel, by decide +kernel⟩, List.mem_of_getElem? (i := 1151) (by decide +kernel), List.mem_of_getElem? (i := 1214) (by decide +kernel), List.mem_of_getElem? (i := 1215) (by decide +kernel)⟩
theorem lw_p70 : lw_okq (⟨"StaveHouse$Study", "findFaults", "(II)V"⟩, 11) := ⟨⟨by decide +kernel, by decide +kernel⟩, List.mem_of_getElem? (i := 1151) (by decide +kernel), List.mem_of_getElem? (i := 1228) (by decide +kernel), List.mem_of_getElem? (i := 1229) (by decide +kernel)⟩
theorem lw_p71 : lw_okq (⟨"StaveHouse$Study", "isFaultOfTwo", "(III)Z"⟩, 11) := ⟨⟨by decide +kernel, by decide +kernel⟩, List.mem_of_getElem? (i := 1151) (by decide +kernel), List.mem_of_getElem? (i := 1232) (by decide +kernel), List.mem_of_getElem? (i := 1233) (by decide +kernel)⟩
theorem lw_p72 : lw_okq (⟨"StaveHouse$Study", "addFault", "(IIII)V"⟩, 11) := ⟨⟨by decide +kernel, by decide +kernel⟩, List.mem_of_getElem? (i := 1151) (by decide +kernel), List.mem_of_getElem? (i := 1241) (by decide +kernel), List.mem_of_getElem? (i := 1242) (by decide +kernel)⟩
theorem lw_p73 : lw_okq (⟨"StaveHouse$Study", "isFaultOfOne", "(II)Z"⟩, 11) := ⟨⟨by decide +kernel, by decide +kernel⟩, List.mem_of_getElem? (i := 1151) (by decide +kernel), List.mem_of_getElem? (i := 1245) (by decide +kernel), List.mem_of_getElem? (i := 1246) (by decide +kernel)⟩
theorem lw_p74 : lw_okq (⟨"StaveHouse$Performance", "trill", "(LStaveHouse$Piece;II)V"⟩, 14) := ⟨⟨by decide +kernel, by decide +kernel⟩, List.mem_of_getElem? (i := 1257) (by decide +kernel), List.mem_of_getElem? (i := 1323) (by decide +kernel), List.mem_of_getElem? (i := 1324) (by decide +kernel)⟩
theorem lw_p75 : lw_okq (⟨"StaveHouse$Performance", "addSound", "(IIILStaveHouse$Event;II)V"⟩, 14) := ⟨⟨by decide +kernel, by decide +kernel⟩, List.mem_of_getElem? (i := 1257) (by decide +kernel), List.mem_of_getElem? (i := 1336) (by decide +kernel), List.mem_of_getElem? (i := 1337) (by decide +kernel)⟩
theorem lw_p76 : lw_okq (⟨"StaveHouse$Performance", "soundAll", "(LStaveHouse$Part;II)V"⟩, 14) := ⟨⟨by decide +kernel, by decide +kernel⟩, List.mem_of_getElem? (i := 1257) (by decide +kernel), List.mem_of_getElem? (i := 1343) (by decide +kernel), List.mem_of_getElem? (i := 1344) (by decide +kernel)⟩
theorem lw_p77 : lw_okq (⟨"StaveHouse", "partAt", "(II)LStaveHouse$Part;"⟩, 10) := ⟨⟨by decide +kernel, by decide +kernel⟩, List.mem_of_getElem? (i := 25) (by decide +kernel), List.mem_of_getElem? (i := 1369) (by decide +kernel), List.mem_of_getElem? (i := 1370) (by decide +kernel)⟩
theorem lw_p78 : lw_okq (⟨"StaveHouse", "eventAt", "(III)LStaveHouse$Event;"⟩, 10) := ⟨⟨by decide +kernel, by decide +kernel⟩, List.mem_of_getElem? (i := 25) (by decide +kernel), List.mem_of_getElem? (i := 1381) (by decide +kernel), List.mem_of_getElem? (i := 1382) (by decide +kernel)⟩
theorem lw_p79 : lw_okq (⟨"StaveHouse$Layout", "setColumns", "(LStaveHouse$Piece;I)V"⟩, 13) := ⟨⟨by decide +kernel, by decide +kernel⟩, List.mem_of_getElem? (i := 1410) (by decide +kernel), List.mem_of_getElem? (i := 1463) (by decide +kernel), List.mem_of_getElem? (i := 1464) (by decide +kernel)⟩
def lw_privs_5 : List (MethodName × Nat) := [(⟨"StaveHouse$Part", "setStems", "()V"⟩, 13), (⟨"StaveHouse", "pieceAt", "(I)LStaveHouse$Piece;"⟩, 10), (⟨"StaveHouse$Study", "findMoments", "(LStaveHouse$Piece;)V"⟩, 11), (⟨"StaveHouse$Study", "nextPlace", "(LStaveHouse$Piece;I)J"⟩, 11), (⟨"StaveHouse$Study", "takeLines", "(LStaveHouse$Piece;I)V"⟩, 11), (⟨"StaveHouse$Study", "eventOf", "(LStaveHouse$Piece;II)LStaveHouse$Event;"⟩, 11), (⟨"StaveHouse$Study", "findFaults", "(II)V"⟩, 11), (⟨"StaveHouse$Study", "isFaultOfTwo", "(III)Z"⟩, 11), (⟨"StaveHouse$Study", "addFault", "(IIII)V"⟩, 11), (⟨"StaveHouse$Study", "isFaultOfOne", "(II)Z"⟩, 11), (⟨"StaveHouse$Performance", "trill", "(LStaveHouse$Piece;II)V"⟩, 14), (⟨"StaveHouse$Performance", "addSound", "(IIILStaveHouse$Event;II)V"⟩, 14), (⟨"StaveHouse$Performance", "soundAll", "(LStaveHouse$Part;II)V"⟩, 14), (⟨"StaveHouse", "partAt", "(II)LStaveHouse$Part;"⟩, 10), (⟨"StaveHouse", "eventAt", "(III)LStaveHouse$Event;"⟩, 10), (⟨"StaveHouse$Layout", "setColumns", "(LStaveHouse$Piece;I)V"⟩, 13)]
theorem lw_r5 : ∀ q ∈ lw_privs_5, lw_okq q := List.forall_mem_cons.mpr ⟨lw_p64, List.forall_mem_cons.mpr ⟨lw_p65, List.forall_mem_cons.mpr ⟨lw_p66, List.forall_mem_cons.mpr ⟨lw_p67, List.forall_mem_cons.mpr ⟨lw_p68, List.forall_mem_cons.mpr ⟨lw_p69, List.forall_mem_cons.mpr ⟨lw_p70, List.forall_mem_cons.mpr ⟨lw_p71, List.forall_mem_cons.mpr ⟨lw_p72, List.forall_mem_cons.mpr ⟨lw_p73, List.forall_mem_cons.mpr ⟨lw_p74, List.forall_mem_cons.mpr ⟨lw_p75, List.forall_mem_cons.mpr ⟨lw_p76, List.forall_mem_cons.mpr ⟨lw_p77, List.forall_mem_cons.mpr ⟨lw_p78, List.forall_mem_cons.mpr ⟨lw_p79, fun _ h => absurd h List.not_mem_nil⟩⟩⟩⟩⟩⟩⟩⟩⟩⟩⟩⟩⟩⟩⟩⟩
theorem lw_p80 : lw_okq (⟨"StaveHouse$Layout", "addColumn", "(LStaveHouse$Piece;I)Z"⟩, 13) := ⟨⟨by decide +kernel, by decide +kernel⟩, List.mem_of_getElem? (i := 1410) (by decide +kernel), List.mem_of_getElem? (i := 1467) (by decide +kernel), List.mem_of_getElem? (i := 1468) (by decide +kernel)⟩
theorem lw_p81 : lw_okq (⟨"StaveHouse$Layout", "nextPlace", "(LStaveHouse$Piece;I)J"⟩, 13) := ⟨⟨by decide +kernel, by decide +kernel⟩, List.mem_of_getElem? (i := 1410) (by decide +kernel), List.mem_of_getElem? (i := 1471) (by decide +kernel), List.mem_of_getElem? (i := 1472) (by decide +kernel)⟩
theorem lw_p82 : lw_okq (⟨"StaveHouse$Layout", "widen", "(IJ)V"⟩, 13) := ⟨⟨by decide +kernel, by decide +kernel⟩, List.mem_of_getElem? (i := 1410) (by decide +kernel), List.mem_of_getElem? (i := 1481) (by decide +kernel), List.mem_of_getElem? (i := 1482) (by decide +kernel)⟩
theorem lw_p83 : lw_okq (⟨"StaveHouse$Layout", "choose", "(LStaveHouse$Piece;II)V"⟩, 13) := ⟨⟨by decide +kernel, by decide +kernel⟩, List.mem_of_getElem? (i := 1410) (by decide +kernel), List.mem_of_getElem? (i := 1487) (by decide +kernel), List.mem_of_getElem? (i := 1488) (by decide +kernel)⟩
theorem lw_p84 : lw_okq (⟨"StaveHouse$Layout", "widthOf", "(LStaveHouse$Piece;II)I"⟩, 13) := ⟨⟨by decide +kernel, by decide +kernel⟩, List.mem_of_getElem? (i := 1410) (by decide +kernel), List.mem_of_getElem? (i := 1500) (by decide +kernel), List.mem_of_getElem? (i := 1501) (by decide +kernel)⟩
theorem lw_p85 : lw_okq (⟨"StaveHouse$Layout", "setXs", "(LStaveHouse$Piece;II)V"⟩, 13) := ⟨⟨by decide +kernel, by decide +kernel⟩, List.mem_of_getElem? (i := 1410) (by decide +kernel), List.mem_of_getElem? (i := 1504) (by decide +kernel), List.mem_of_getElem? (i := 1505) (by decide +kernel)⟩
theorem lw_p86 : lw_okq (⟨"StaveHouse$Performance", "strokeKey", "(IJI)J"⟩, 14) := ⟨⟨by decide +kernel, by decide +kernel⟩, List.mem_of_getElem? (i := 1257) (by decide +kernel), List.mem_of_getElem? (i := 1532) (by decide +kernel), List.mem_of_getElem? (i := 1533) (by decide +kernel)⟩
theorem lw_p87 : lw_okq (⟨"StaveHouse$Performance", "sortStrokes", "()V"⟩, 14) := ⟨⟨by decide +kernel, by decide +kernel⟩, List.mem_of_getElem? (i := 1257) (by decide +kernel), List.mem_of_getElem? (i := 1537) (by decide +kernel), List.mem_of_getElem? (i := 1538) (by decide +kernel)⟩
theorem lw_p88 : lw_okq (⟨"StaveHouse$Performance", "merge", "(III)V"⟩, 14) := ⟨⟨by decide +kernel, by decide +kernel⟩, List.mem_of_getElem? (i := 1257) (by decide +kernel), List.mem_of_getElem? (i := 1541) (by decide +kernel), List.mem_of_getElem? (i := 1542) (by decide +kernel)⟩
theorem lw_p89 : lw_okq (⟨"StaveHouse", "performanceOf", "(I)LStaveHouse$Performance;"⟩, 10) := ⟨⟨by decide +kernel, by decide +kernel⟩, List.mem_of_getElem? (i := 25) (by decide +kernel), List.mem_of_getElem? (i := 1549) (by decide +kernel), List.mem_of_getElem? (i := 1550) (by decide +kernel)⟩
theorem lw_p90 : lw_okq (⟨"StaveHouse$Performance", "writeVoice", "(LStaveHouse$Part;ILStaveHouse$ByteRow;)V"⟩, 14) := ⟨⟨by decide +kernel, by decide +kernel⟩, List.mem_of_getElem? (i := 1257) (by decide +kernel), List.mem_of_getElem? (i := 1624) (by decide +kernel), List.mem_of_getElem? (i := 1625) (by decide +kernel)⟩
theorem lw_p91 : lw_okq (⟨"StaveHouse$Performance", "writeStrokes", "(ILStaveHouse$ByteRow;)V"⟩, 14) := ⟨⟨by decide +kernel, by decide +kernel⟩, List.mem_of_getElem? (i := 1257) (by decide +kernel), List.mem_of_getElem? (i := 1628) (by decide +kernel), List.mem_of_getElem? (i := 1629) (by decide +kernel)⟩
theorem lw_p92 : lw_okq (⟨"StaveHouse$SoundFile", "setDefaults", "()V"⟩, 15) := ⟨⟨by decide +kernel, by decide +kernel⟩, List.mem_of_getElem? (i := 1650) (by decide +kernel), List.mem_of_getElem? (i := 1715) (by decide +kernel), List.mem_of_getElem? (i := 1716) (by decide +kernel)⟩
theorem lw_p93 : lw_okq (⟨"StaveHouse$SoundFile", "loadHead", "()V"⟩, 15) := ⟨⟨by decide +kernel, by decide +kernel⟩, List.mem_of_getElem? (i := 1650) (by decide +kernel), List.mem_of_getElem? (i := 1719) (by decide +kernel), List.mem_of_getElem? (i := 1720) (by decide +kernel)⟩
theorem lw_p94 : lw_okq (⟨"StaveHouse$SoundFile", "takeOnly", "(II)V"⟩, 15) := ⟨⟨by decide +kernel, by decide +kernel⟩, List.mem_of_getElem? (i := 1650) (by decide +kernel), List.mem_of_getElem? (i := 1726) (by decide +kernel), List.mem_of_getElem? (i := 1727) (by decide +kernel)⟩
theorem lw_p95 : lw_okq (⟨"StaveHouse$SoundFile", "take", "()I"⟩, 15) := ⟨⟨by decide +kernel, by decide +kernel⟩, List.mem_of_getElem? (i := 1650) (by decide +kernel), List.mem_of_getElem? (i := 1730) (by decide +kernel), List.mem_of_getElem? (i := 1731) (by decide +kernel)⟩
def lw_privs_6 : List (MethodName × Nat) := [(⟨"StaveHouse$Layout", "addColumn", "(LStaveHouse$Piece;I)Z"⟩, 13), (⟨"StaveHouse$Layout", "nextPlace", "(LStaveHouse$Piece;I)J"⟩, 13), (⟨"StaveHouse$Layout", "widen", "(IJ)V"⟩, 13), (⟨"StaveHouse$Layout", "choose", "(LStaveHouse$Piece;II)V"⟩, 13), (⟨"StaveHouse$Layout", "widthOf", "(LStaveHouse$Piece;II)I"⟩, 13), (⟨"StaveHouse$Layout", "setXs", "(LStaveHouse$Piece;II)V"⟩, 13), (⟨"StaveHouse$Performance", "strokeKey", "(IJI)J"⟩, 14), (⟨"StaveHouse$Performance", "sortStrokes", "()V"⟩, 14), (⟨"StaveHouse$Performance", "merge", "(III)V"⟩, 14), (⟨"StaveHouse", "performanceOf", "(I)LStaveHouse$Performance;"⟩, 10), (⟨"StaveHouse$Performance", "writeVoice", "(LStaveHouse$Part;ILStaveHouse$ByteRow;)V"⟩, 14), (⟨"StaveHouse$Performance", "writeStrokes", "(ILStaveHouse$ByteRow;)V"⟩, 14), (⟨"StaveHouse$SoundFile", "setDefaults", "()V"⟩, 15), (⟨"StaveHouse$SoundFile", "loadHead", "()V"⟩, 15), (⟨"StaveHouse$SoundFile", "takeOnly", "(II)V"⟩, 15), (⟨"StaveHouse$SoundFile", "take", "()I"⟩, 15)]
theorem lw_r6 : ∀ q ∈ lw_privs_6, lw_okq q := List.forall_mem_cons.mpr ⟨lw_p80, List.forall_mem_cons.mpr ⟨lw_p81, List.forall_mem_cons.mpr ⟨lw_p82, List.forall_mem_cons.mpr ⟨lw_p83, List.forall_mem_cons.mpr ⟨lw_p84, List.forall_mem_cons.mpr ⟨lw_p85, List.forall_mem_cons.mpr ⟨lw_p86, List.forall_mem_cons.mpr ⟨lw_p87, List.forall_mem_cons.mpr ⟨lw_p88, List.forall_mem_cons.mpr ⟨lw_p89, List.forall_mem_cons.mpr ⟨lw_p90, List.forall_mem_cons.mpr ⟨lw_p91, List.forall_mem_cons.mpr ⟨lw_p92, List.forall_mem_cons.mpr ⟨lw_p93, List.forall_mem_cons.mpr ⟨lw_p94, List.forall_mem_cons.mpr ⟨lw_p95, fun _ h => absurd h List.not_mem_nil⟩⟩⟩⟩⟩⟩⟩⟩⟩⟩⟩⟩⟩⟩⟩⟩
theorem lw_p96 : lw_okq (⟨"StaveHouse$SoundFile", "refuse", "(II)V"⟩, 15) := ⟨⟨by decide +kernel, by decide +kernel⟩, List.mem_of_getElem? (i := 1650) (by decide +kernel), List.mem_of_getElem? (i := 1734) (by decide +kernel), List.mem_of_getElem? (i := 1735) (by decide +kernel)⟩
theorem lw_p97 : lw_okq (⟨"StaveHouse$SoundFile", "takeWide", "(I)J"⟩, 15) := ⟨⟨by decide +kernel, by decide +kernel⟩, List.mem_of_getElem? (i := 1650) (by decide +kernel), List.mem_of_getElem? (i := 1739) (by decide +kernel), List.mem_of_getElem? (i := 1740) (by decide +kernel)⟩
theorem lw_p98 : lw_okq (⟨"StaveHouse$SoundFile", "takeBounded", "(IJJ)I"⟩, 15) := ⟨⟨by decide +kernel, by decide +kernel⟩, List.mem_of_getElem? (i := 1650) (by decide +kernel), List.mem_of_getElem? (i := 1746) (by decide +kernel), List.mem_of_getElem? (i := 1747) (by decide +kernel)⟩
theorem lw_p99 : lw_okq (⟨"StaveHouse$SoundFile", "skip", "(J)V"⟩, 15) := ⟨⟨by decide +kernel, by decide +kernel⟩, List.mem_of_getElem? (i := 1650) (by decide +kernel), List.mem_of_getElem? (i := 1751) (by decide +kernel), List.mem_of_getElem? (i := 1752) (by decide +kernel)⟩
theorem lw_p100 : lw_okq (⟨"StaveHouse$SoundFile", "loadTrack", "(J)V"⟩, 15) := ⟨⟨by decide +kernel, by decide +kernel⟩, List.mem_of_getElem? (i := 1650) (by decide +kernel), List.mem_of_getElem? (i := 1757) (by decide +kernel), List.mem_of_getElem? (i := 1758) (by decide +kernel)⟩
theorem lw_p101 : lw_okq (⟨"StaveHouse$SoundFile", "loadEvent", "(I)V"⟩, 15) := ⟨⟨by decide +kernel, by decide +kernel⟩, List.mem_of_getElem? (i := 1650) (by decide +kernel), List.mem_of_getElem? (i := 1761) (by decide +kernel), List.mem_of_getElem? (i := 1762) (by decide +kernel)⟩
theorem lw_p102 : lw_okq (⟨"StaveHouse$SoundFile", "takeDelta", "()I"⟩, 15) := ⟨⟨by decide +kernel, by decide +kernel⟩, List.mem_of_getElem? (i := 1650) (by decide +kernel), List.mem_of_getElem? (i := 1765) (by decide +kernel), List.mem_of_getElem? (i := 1766) (by decide +kernel)⟩
theorem lw_p103 : lw_okq (⟨"StaveHouse$SoundFile", "loadMeta", "()V"⟩, 15) := ⟨⟨by decide +kernel, by decide +kernel⟩, List.mem_of_getElem? (i := 1650) (by decide +kernel), List.mem_of_getElem? (i := 1769) (by decide +kernel), List.mem_of_getElem? (i := 1770) (by decide +kernel)⟩
theorem lw_p104 : lw_okq (⟨"StaveHouse$SoundFile", "takeData", "()I"⟩, 15) := ⟨⟨by decide +kernel, by decide +kernel⟩, List.mem_of_getElem? (i := 1650) (by decide +kernel), List.mem_of_getElem? (i := 1773) (by decide +kernel), List.mem_of_getElem? (i := 1774) (by decide +kernel)⟩
theorem lw_p105 : lw_okq (⟨"StaveHouse$SoundFile", "tellTime", "(II)V"⟩, 15) := ⟨⟨by decide +kernel, by decide +kernel⟩, List.mem_of_getElem? (i := 1650) (by decide +kernel), List.mem_of_getElem? (i := 1777) (by decide +kernel), List.mem_of_getElem? (i := 1778) (by decide +kernel)⟩
theorem lw_p106 : lw_okq (⟨"StaveHouse$SoundFile", "tellKey", "(II)V"⟩, 15) := ⟨⟨by decide +kernel, by decide +kernel⟩, List.mem_of_getElem? (i := 1650) (by decide +kernel), List.mem_of_getElem? (i := 1781) (by decide +kernel), List.mem_of_getElem? (i := 1782) (by decide +kernel)⟩
theorem lw_p107 : lw_okq (⟨"StaveHouse$SoundFile", "tellTempo", "(I)V"⟩, 15) := ⟨⟨by decide +kernel, by decide +kernel⟩, List.mem_of_getElem? (i := 1650) (by decide +kernel), List.mem_of_getElem? (i := 1787) (by decide +kernel), List.mem_of_getElem? (i := 1788) (by decide +kernel)⟩
theorem lw_p108 : lw_okq (⟨"StaveHouse$SoundFile", "loadMessage", "(III)V"⟩, 15) := ⟨⟨by decide +kernel, by decide +kernel⟩, List.mem_of_getElem? (i := 1650) (by decide +kernel), List.mem_of_getElem? (i := 1794) (by decide +kernel), List.mem_of_getElem? (i := 1795) (by decide +kernel)⟩
theorem lw_p109 : lw_okq (⟨"StaveHouse$SoundFile", "beginSound", "(III)V"⟩, 15) := ⟨⟨by decide +kernel, by decide +kernel⟩, List.mem_of_getElem? (i := 1650) (by decide +kernel), List.mem_of_getElem? (i := 1798) (by decide +kernel), List.mem_of_getElem? (i := 1799) (by decide +kernel)⟩
theorem lw_p110 : lw_okq (⟨"StaveHouse$SoundFile", "endSound", "(II)V"⟩, 15) := ⟨⟨by decide +kernel, by decide +kernel⟩, List.mem_of_getElem? (i := 1650) (by decide +kernel), List.mem_of_getElem? (i := 1803) (by decide +kernel), List.mem_of_getElem? (i := 1804) (by decide +kernel)⟩
theorem lw_p111 : lw_okq (⟨"StaveHouse$Scribe", "lastPlace", "()J"⟩, 9) := ⟨⟨by decide +kernel, by decide +kernel⟩, List.mem_of_getElem? (i := 249) (by decide +kernel), List.mem_of_getElem? (i := 1825) (by decide +kernel), List.mem_of_getElem? (i := 1826) (by decide +kernel)⟩
def lw_privs_7 : List (MethodName × Nat) := [(⟨"StaveHouse$SoundFile", "refuse", "(II)V"⟩, 15), (⟨"StaveHouse$SoundFile", "takeWide", "(I)J"⟩, 15), (⟨"StaveHouse$SoundFile", "takeBounded", "(IJJ)I"⟩, 15), (⟨"StaveHouse$SoundFile", "skip", "(J)V"⟩, 15), (⟨"StaveHouse$SoundFile", "loadTrack", "(J)V"⟩, 15), (⟨"StaveHouse$SoundFile", "loadEvent", "(I)V"⟩, 15), (⟨"StaveHouse$SoundFile", "takeDelta", "()I"⟩, 15), (⟨"StaveHouse$SoundFile", "loadMeta", "()V"⟩, 15), (⟨"StaveHouse$SoundFile", "takeData", "()I"⟩, 15), (⟨"StaveHouse$SoundFile", "tellTime", "(II)V"⟩, 15), (⟨"StaveHouse$SoundFile", "tellKey", "(II)V"⟩, 15), (⟨"StaveHouse$SoundFile", "tellTempo", "(I)V"⟩, 15), (⟨"StaveHouse$SoundFile", "loadMessage", "(III)V"⟩, 15), (⟨"StaveHouse$SoundFile", "beginSound", "(III)V"⟩, 15), (⟨"StaveHouse$SoundFile", "endSound", "(II)V"⟩, 15), (⟨"StaveHouse$Scribe", "lastPlace", "()J"⟩, 9)]
theorem lw_r7 : ∀ q ∈ lw_privs_7, lw_okq q := List.forall_mem_cons.mpr ⟨lw_p96, List.forall_mem_cons.mpr ⟨lw_p97, List.forall_mem_cons.mpr ⟨lw_p98, List.forall_mem_cons.mpr ⟨lw_p99, List.forall_mem_cons.mpr ⟨lw_p100, List.forall_mem_cons.mpr ⟨lw_p101, List.forall_mem_cons.mpr ⟨lw_p102, List.forall_mem_cons.mpr ⟨lw_p103, List.forall_mem_cons.mpr ⟨lw_p104, List.forall_mem_cons.mpr ⟨lw_p105, List.forall_mem_cons.mpr ⟨lw_p106, List.forall_mem_cons.mpr ⟨lw_p107, List.forall_mem_cons.mpr ⟨lw_p108, List.forall_mem_cons.mpr ⟨lw_p109, List.forall_mem_cons.mpr ⟨lw_p110, List.forall_mem_cons.mpr ⟨lw_p111, fun _ h => absurd h List.not_mem_nil⟩⟩⟩⟩⟩⟩⟩⟩⟩⟩⟩⟩⟩⟩⟩⟩
theorem lw_p112 : lw_okq (⟨"StaveHouse$Scribe", "trackEnd", "(I)I"⟩, 9) := ⟨⟨by decide +kernel, by decide +kernel⟩, List.mem_of_getElem? (i := 249) (by decide +kernel), List.mem_of_getElem? (i := 1829) (by decide +kernel), List.mem_of_getElem? (i := 1830) (by decide +kernel)⟩
theorem lw_p113 : lw_okq (⟨"StaveHouse$Scribe", "gatherEvent", "(II)V"⟩, 9) := ⟨⟨by decide +kernel, by decide +kernel⟩, List.mem_of_getElem? (i := 249) (by decide +kernel), List.mem_of_getElem? (i := 1833) (by decide +kernel), List.mem_of_getElem? (i := 1834) (by decide +kernel)⟩
theorem lw_p114 : lw_okq (⟨"StaveHouse$Scribe", "gridPlace", "(J)J"⟩, 9) := ⟨⟨by decide +kernel, by decide +kernel⟩, List.mem_of_getElem? (i := 249) (by decide +kernel), List.mem_of_getElem? (i := 1837) (by decide +kernel), List.mem_of_getElem? (i := 1838) (by decide +kernel)⟩
theorem lw_p115 : lw_okq (⟨"StaveHouse$Scribe", "writeHead", "()V"⟩, 9) := ⟨⟨by decide +kernel, by decide +kernel⟩, List.mem_of_getElem? (i := 249) (by decide +kernel), List.mem_of_getElem? (i := 1847) (by decide +kernel), List.mem_of_getElem? (i := 1848) (by decide +kernel)⟩
theorem lw_p116 : lw_okq (⟨"StaveHouse$Scribe", "writeVoice", "(III)V"⟩, 9) := ⟨⟨by decide +kernel, by decide +kernel⟩, List.mem_of_getElem? (i := 249) (by decide +kernel), List.mem_of_getElem? (i := 1863) (by decide +kernel), List.mem_of_getElem? (i := 1864) (by decide +kernel)⟩
theorem lw_p117 : lw_okq (⟨"StaveHouse$Scribe", "writeRest", "(II)V"⟩, 9) := ⟨⟨by decide +kernel, by decide +kernel⟩, List.mem_of_getElem? (i := 249) (by decide +kernel), List.mem_of_getElem? (i := 1872) (by decide +kernel), List.mem_of_getElem? (i := 1873) (by decide +kernel)⟩
theorem lw_p118 : lw_okq (⟨"StaveHouse$Scribe", "writeSpan", "(II)V"⟩, 9) := ⟨⟨by decide +kernel, by decide +kernel⟩, List.mem_of_getElem? (i := 249) (by decide +kernel), List.mem_of_getElem? (i := 1876) (by decide +kernel), List.mem_of_getElem? (i := 1877) (by decide +kernel)⟩
theorem lw_p119 : lw_okq (⟨"StaveHouse$Scribe", "writeNote", "(IZ)V"⟩, 9) := ⟨⟨by decide +kernel, by decide +kernel⟩, List.mem_of_getElem? (i := 249) (by decide +kernel), List.mem_of_getElem? (i := 1884) (by decide +kernel), List.mem_of_getElem? (i := 1885) (by decide +kernel)⟩
theorem lw_p120 : lw_okq (⟨"StaveHouse$Scribe", "writePitch", "(II)V"⟩, 9) := ⟨⟨by decide +kernel, by decide +kernel⟩, List.mem_of_getElem? (i := 249) (by decide +kernel), List.mem_of_getElem? (i := 1892) (by decide +kernel), List.mem_of_getElem? (i := 1893) (by decide +kernel)⟩
theorem lw_p121 : lw_okq (⟨"StaveHouse$Scribe", "spellEvent", "()V"⟩, 9) := ⟨⟨by decide +kernel, by decide +kernel⟩, List.mem_of_getElem? (i := 249) (by decide +kernel), List.mem_of_getElem? (i := 1903) (by decide +kernel), List.mem_of_getElem? (i := 1904) (by decide +kernel)⟩
theorem lw_p122 : lw_okq (⟨"StaveHouse$Scribe", "spell", "(I)V"⟩, 9) := ⟨⟨by decide +kernel, by decide +kernel⟩, List.mem_of_getElem? (i := 249) (by decide +kernel), List.mem_of_getElem? (i := 1907) (by decide +kernel), List.mem_of_getElem? (i := 1908) (by decide +kernel)⟩
theorem lw_p123 : lw_okq (⟨"StaveHouse$Performance", "mixSound", "(LStaveHouse$Piece;II)V"⟩, 14) := ⟨⟨by decide +kernel, by decide +kernel⟩, List.mem_of_getElem? (i := 1257) (by decide +kernel), List.mem_of_getElem? (i := 1923) (by decide +kernel), List.mem_of_getElem? (i := 1924) (by decide +kernel)⟩
theorem lw_p124 : lw_okq (⟨"StaveHouse$Performance", "nextCode", "()I"⟩, 14) := ⟨⟨by decide +kernel, by decide +kernel⟩, List.mem_of_getElem? (i := 1257) (by decide +kernel), List.mem_of_getElem? (i := 1943) (by decide +kernel), List.mem_of_getElem? (i := 1944) (by decide +kernel)⟩
theorem lw_p125 : lw_okq (⟨"StaveHouse$Study", "takeClasses", "(LStaveHouse$Piece;I)V"⟩, 11) := ⟨⟨by decide +kernel, by decide +kernel⟩, List.mem_of_getElem? (i := 1151) (by decide +kernel), List.mem_of_getElem? (i := 1964) (by decide +kernel), List.mem_of_getElem? (i := 1965) (by decide +kernel)⟩
theorem lw_p126 : lw_okq (⟨"StaveHouse$Study", "chordKind", "(I)I"⟩, 11) := ⟨⟨by decide +kernel, by decide +kernel⟩, List.mem_of_getElem? (i := 1151) (by decide +kernel), List.mem_of_getElem? (i := 1969) (by decide +kernel), List.mem_of_getElem? (i := 1970) (by decide +kernel)⟩
theorem lw_p127 : lw_okq (⟨"StaveHouse$Study", "tonesAbove", "(II)I"⟩, 11) := ⟨⟨by decide +kernel, by decide +kernel⟩, List.mem_of_getElem? (i := 1151) (by decide +kernel), List.mem_of_getElem? (i := 1973) (by decide +kernel), List.mem_of_getElem? (i := 1974) (by decide +kernel)⟩
def lw_privs_8 : List (MethodName × Nat) := [(⟨"StaveHouse$Scribe", "trackEnd", "(I)I"⟩, 9), (⟨"StaveHouse$Scribe", "gatherEvent", "(II)V"⟩, 9), (⟨"StaveHouse$Scribe", "gridPlace", "(J)J"⟩, 9), (⟨"StaveHouse$Scribe", "writeHead", "()V"⟩, 9), (⟨"StaveHouse$Scribe", "writeVoice", "(III)V"⟩, 9), (⟨"StaveHouse$Scribe", "writeRest", "(II)V"⟩, 9), (⟨"StaveHouse$Scribe", "writeSpan", "(II)V"⟩, 9), (⟨"StaveHouse$Scribe", "writeNote", "(IZ)V"⟩, 9), (⟨"StaveHouse$Scribe", "writePitch", "(II)V"⟩, 9), (⟨"StaveHouse$Scribe", "spellEvent", "()V"⟩, 9), (⟨"StaveHouse$Scribe", "spell", "(I)V"⟩, 9), (⟨"StaveHouse$Performance", "mixSound", "(LStaveHouse$Piece;II)V"⟩, 14), (⟨"StaveHouse$Performance", "nextCode", "()I"⟩, 14), (⟨"StaveHouse$Study", "takeClasses", "(LStaveHouse$Piece;I)V"⟩, 11), (⟨"StaveHouse$Study", "chordKind", "(I)I"⟩, 11), (⟨"StaveHouse$Study", "tonesAbove", "(II)I"⟩, 11)]
theorem lw_r8 : ∀ q ∈ lw_privs_8, lw_okq q := List.forall_mem_cons.mpr ⟨lw_p112, List.forall_mem_cons.mpr ⟨lw_p113, List.forall_mem_cons.mpr ⟨lw_p114, List.forall_mem_cons.mpr ⟨lw_p115, List.forall_mem_cons.mpr ⟨lw_p116, List.forall_mem_cons.mpr ⟨lw_p117, List.forall_mem_cons.mpr ⟨lw_p118, List.forall_mem_cons.mpr ⟨lw_p119, List.forall_mem_cons.mpr ⟨lw_p120, List.forall_mem_cons.mpr ⟨lw_p121, List.forall_mem_cons.mpr ⟨lw_p122, List.forall_mem_cons.mpr ⟨lw_p123, List.forall_mem_cons.mpr ⟨lw_p124, List.forall_mem_cons.mpr ⟨lw_p125, List.forall_mem_cons.mpr ⟨lw_p126, List.forall_mem_cons.mpr ⟨lw_p127, fun _ h => absurd h List.not_mem_nil⟩⟩⟩⟩⟩⟩⟩⟩⟩⟩⟩⟩⟩⟩⟩⟩
theorem lw_p128 : lw_okq (⟨"StaveHouse$Study", "alterationOf", "(I)I"⟩, 11) := ⟨⟨by decide +kernel, by decide +kernel⟩, List.mem_of_getElem? (i := 1151) (by decide +kernel), List.mem_of_getElem? (i := 1978) (by decide +kernel), List.mem_of_getElem? (i := 1979) (by decide +kernel)⟩
theorem lw_p129 : lw_okq (⟨"StaveHouse$Study", "bassLetter", "(LStaveHouse$Piece;I)I"⟩, 11) := ⟨⟨by decide +kernel, by decide +kernel⟩, List.mem_of_getElem? (i := 1151) (by decide +kernel), List.mem_of_getElem? (i := 1986) (by decide +kernel), List.mem_of_getElem? (i := 1987) (by decide +kernel)⟩
theorem lw_p130 : lw_okq (⟨"StaveHouse$Study", "isForeign", "(LStaveHouse$Piece;)Z"⟩, 11) := ⟨⟨by decide +kernel, by decide +kernel⟩, List.mem_of_getElem? (i := 1151) (by decide +kernel), List.mem_of_getElem? (i := 1993) (by decide +kernel), List.mem_of_getElem? (i := 1994) (by decide +kernel)⟩
theorem lw_p131 : lw_okq (⟨"StaveHouseModel", "piece", "(I)LStaveHouseModel$Piece;"⟩, 107) := ⟨⟨by decide +kernel, by decide +kernel⟩, List.mem_of_getElem? (i := 2033) (by decide +kernel), List.mem_of_getElem? (i := 2733) (by decide +kernel), List.mem_of_getElem? (i := 2734) (by decide +kernel)⟩
theorem lw_p132 : lw_okq (⟨"StaveHouseModel", "gather", "(LStaveHouseModel$Piece;)I"⟩, 107) := ⟨⟨by decide +kernel, by decide +kernel⟩, List.mem_of_getElem? (i := 2033) (by decide +kernel), List.mem_of_getElem? (i := 2766) (by decide +kernel), List.mem_of_getElem? (i := 2767) (by decide +kernel)⟩
theorem lw_p133 : lw_okq (⟨"StaveHouseModel", "trill", "(LStaveHouseModel$Piece;IIII)V"⟩, 107) := ⟨⟨by decide +kernel, by decide +kernel⟩, List.mem_of_getElem? (i := 2033) (by decide +kernel), List.mem_of_getElem? (i := 2776) (by decide +kernel), List.mem_of_getElem? (i := 2777) (by decide +kernel)⟩
theorem lw_p134 : lw_okq (⟨"StaveHouseModel", "endTick", "(LStaveHouseModel$Piece;I)I"⟩, 107) := ⟨⟨by decide +kernel, by decide +kernel⟩, List.mem_of_getElem? (i := 2033) (by decide +kernel), List.mem_of_getElem? (i := 2784) (by decide +kernel), List.mem_of_getElem? (i := 2785) (by decide +kernel)⟩
theorem lw_p135 : lw_okq (⟨"StaveHouseModel", "plus", "(JJJJ)V"⟩, 107) := ⟨⟨by decide +kernel, by decide +kernel⟩, List.mem_of_getElem? (i := 2033) (by decide +kernel), List.mem_of_getElem? (i := 2788) (by decide +kernel), List.mem_of_getElem? (i := 2789) (by decide +kernel)⟩
theorem lw_p136 : lw_okq (⟨"StaveHouseModel", "is", "(JJ)V"⟩, 107) := ⟨⟨by decide +kernel, by decide +kernel⟩, List.mem_of_getElem? (i := 2033) (by decide +kernel), List.mem_of_getElem? (i := 2795) (by decide +kernel), List.mem_of_getElem? (i := 2796) (by decide +kernel)⟩
theorem lw_p137 : lw_okq (⟨"StaveHouseModel", "forceOf", "(LStaveHouseModel$Piece;I)I"⟩, 107) := ⟨⟨by decide +kernel, by decide +kernel⟩, List.mem_of_getElem? (i := 2033) (by decide +kernel), List.mem_of_getElem? (i := 2811) (by decide +kernel), List.mem_of_getElem? (i := 2812) (by decide +kernel)⟩
theorem lw_p138 : lw_okq (⟨"StaveHouseModel", "sound", "(IIIIII)V"⟩, 107) := ⟨⟨by decide +kernel, by decide +kernel⟩, List.mem_of_getElem? (i := 2033) (by decide +kernel), List.mem_of_getElem? (i := 2815) (by decide +kernel), List.mem_of_getElem? (i := 2816) (by decide +kernel)⟩
theorem lw_p139 : lw_okq (⟨"StaveHouseModel", "plain", "(LStaveHouseModel$Piece;IIII)V"⟩, 107) := ⟨⟨by decide +kernel, by decide +kernel⟩, List.mem_of_getElem? (i := 2033) (by decide +kernel), List.mem_of_getElem? (i := 2819) (by decide +kernel), List.mem_of_getElem? (i := 2820) (by decide +kernel)⟩
theorem lw_p140 : lw_okq (⟨"StaveHouseModel", "isAhead", "(II)Z"⟩, 107) := ⟨⟨by decide +kernel, by decide +kernel⟩, List.mem_of_getElem? (i := 2033) (by decide +kernel), List.mem_of_getElem? (i := 2823) (by decide +kernel), List.mem_of_getElem? (i := 2824) (by decide +kernel)⟩
theorem lw_p141 : lw_okq (⟨"StaveHouseModel", "put", "(Ljava/lang/String;)V"⟩, 107) := ⟨⟨by decide +kernel, by decide +kernel⟩, List.mem_of_getElem? (i := 2033) (by decide +kernel), List.mem_of_getElem? (i := 2836) (by decide +kernel), List.mem_of_getElem? (i := 2837) (by decide +kernel)⟩
theorem lw_p142 : lw_okq (⟨"StaveHouseModel", "put", "(I)V"⟩, 107) := ⟨⟨by decide +kernel, by decide +kernel⟩, List.mem_of_getElem? (i := 2033) (by decide +kernel), List.mem_of_getElem? (i := 2840) (by decide +kernel), List.mem_of_getElem? (i := 2841) (by decide +kernel)⟩
theorem lw_p143 : lw_okq (⟨"StaveHouseModel", "four", "(I)V"⟩, 107) := ⟨⟨by decide +kernel, by decide +kernel⟩, List.mem_of_getElem? (i := 2033) (by decide +kernel), List.mem_of_getElem? (i := 2844) (by decide +kernel), List.mem_of_getElem? (i := 2845) (by decide +kernel)⟩
def lw_privs_9 : List (MethodName × Nat) := [(⟨"StaveHouse$Study", "alterationOf", "(I)I"⟩, 11), (⟨"StaveHouse$Study", "bassLetter", "(LStaveHouse$Piece;I)I"⟩, 11), (⟨"StaveHouse$Study", "isForeign", "(LStaveHouse$Piece;)Z"⟩, 11), (⟨"StaveHouseModel", "piece", "(I)LStaveHouseModel$Piece;"⟩, 107), (⟨"StaveHouseModel", "gather", "(LStaveHouseModel$Piece;)I"⟩, 107), (⟨"StaveHouseModel", "trill", "(LStaveHouseModel$Piece;IIII)V"⟩, 107), (⟨"StaveHouseModel", "endTick", "(LStaveHouseModel$Piece;I)I"⟩, 107), (⟨"StaveHouseModel", "plus", "(JJJJ)V"⟩, 107), (⟨"StaveHouseModel", "is", "(JJ)V"⟩, 107), (⟨"StaveHouseModel", "forceOf", "(LStaveHouseModel$Piece;I)I"⟩, 107), (⟨"StaveHouseModel", "sound", "(IIIIII)V"⟩, 107), (⟨"StaveHouseModel", "plain", "(LStaveHouseModel$Piece;IIII)V"⟩, 107), (⟨"StaveHouseModel", "isAhead", "(II)Z"⟩, 107), (⟨"StaveHouseModel", "put", "(Ljava/lang/String;)V"⟩, 107), (⟨"StaveHouseModel", "put", "(I)V"⟩, 107), (⟨"StaveHouseModel", "four", "(I)V"⟩, 107)]
theorem lw_r9 : ∀ q ∈ lw_privs_9, lw_okq q := List.forall_mem_cons.mpr ⟨lw_p128, List.forall_mem_cons.mpr ⟨lw_p129, List.forall_mem_cons.mpr ⟨lw_p130, List.forall_mem_cons.mpr ⟨lw_p131, List.forall_mem_cons.mpr ⟨lw_p132, List.forall_mem_cons.mpr ⟨lw_p133, List.forall_mem_cons.mpr ⟨lw_p134, List.forall_mem_cons.mpr ⟨lw_p135, List.forall_mem_cons.mpr ⟨lw_p136, List.forall_mem_cons.mpr ⟨lw_p137, List.forall_mem_cons.mpr ⟨lw_p138, List.forall_mem_cons.mpr ⟨lw_p139, List.forall_mem_cons.mpr ⟨lw_p140, List.forall_mem_cons.mpr ⟨lw_p141, List.forall_mem_cons.mpr ⟨lw_p142, List.forall_mem_cons.mpr ⟨lw_p143, fun _ h => absurd h List.not_mem_nil⟩⟩⟩⟩⟩⟩⟩⟩⟩⟩⟩⟩⟩⟩⟩⟩
theorem lw_p144 : lw_okq (⟨"StaveHouseModel", "beginTrack", "()I"⟩, 107) := ⟨⟨by decide +kernel, by decide +kernel⟩, List.mem_of_getElem? (i := 2033) (by decide +kernel), List.mem_of_getElem? (i := 2848) (by decide +kernel), List.mem_of_getElem? (i := 2849) (by decide +kernel)⟩
theorem lw_p145 : lw_okq (⟨"StaveHouseModel", "endTrack", "(I)V"⟩, 107) := ⟨⟨by decide +kernel, by decide +kernel⟩, List.mem_of_getElem? (i := 2033) (by decide +kernel), List.mem_of_getElem? (i := 2854) (by decide +kernel), List.mem_of_getElem? (i := 2855) (by decide +kernel)⟩
theorem lw_p146 : lw_okq (⟨"StaveHouseModel", "voiceTrack", "(LStaveHouseModel$Piece;I)V"⟩, 107) := ⟨⟨by decide +kernel, by decide +kernel⟩, List.mem_of_getElem? (i := 2033) (by decide +kernel), List.mem_of_getElem? (i := 2858) (by decide +kernel), List.mem_of_getElem? (i := 2859) (by decide +kernel)⟩
theorem lw_p147 : lw_okq (⟨"StaveHouseModel", "word", "(J)V"⟩, 107) := ⟨⟨by decide +kernel, by decide +kernel⟩, List.mem_of_getElem? (i := 2033) (by decide +kernel), List.mem_of_getElem? (i := 2862) (by decide +kernel), List.mem_of_getElem? (i := 2863) (by decide +kernel)⟩
theorem lw_p148 : lw_okq (⟨"StaveHouseModel", "delta", "(I)V"⟩, 107) := ⟨⟨by decide +kernel, by decide +kernel⟩, List.mem_of_getElem? (i := 2033) (by decide +kernel), List.mem_of_getElem? (i := 2867) (by decide +kernel), List.mem_of_getElem? (i := 2868) (by decide +kernel)⟩
theorem lw_p149 : lw_okq (⟨"StaveHouseModel", "header", "()J"⟩, 107) := ⟨⟨by decide +kernel, by decide +kernel⟩, List.mem_of_getElem? (i := 2033) (by decide +kernel), List.mem_of_getElem? (i := 2884) (by decide +kernel), List.mem_of_getElem? (i := 2885) (by decide +kernel)⟩
theorem lw_p150 : lw_okq (⟨"StaveHouseModel", "expect", "(Ljava/lang/String;)V"⟩, 107) := ⟨⟨by decide +kernel, by decide +kernel⟩, List.mem_of_getElem? (i := 2033) (by decide +kernel), List.mem_of_getElem? (i := 2888) (by decide +kernel), List.mem_of_getElem? (i := 2889) (by decide +kernel)⟩
theorem lw_p151 : lw_okq (⟨"StaveHouseModel", "next", "()I"⟩, 107) := ⟨⟨by decide +kernel, by decide +kernel⟩, List.mem_of_getElem? (i := 2033) (by decide +kernel), List.mem_of_getElem? (i := 2892) (by decide +kernel), List.mem_of_getElem? (i := 2893) (by decide +kernel)⟩
theorem lw_p152 : lw_okq (⟨"StaveHouseModel", "good", "()Z"⟩, 107) := ⟨⟨by decide +kernel, by decide +kernel⟩, List.mem_of_getElem? (i := 2033) (by decide +kernel), List.mem_of_getElem? (i := 2896) (by decide +kernel), List.mem_of_getElem? (i := 2897) (by decide +kernel)⟩
theorem lw_p153 : lw_okq (⟨"StaveHouseModel", "failByte", "(II)V"⟩, 107) := ⟨⟨by decide +kernel, by decide +kernel⟩, List.mem_of_getElem? (i := 2033) (by decide +kernel), List.mem_of_getElem? (i := 2900) (by decide +kernel), List.mem_of_getElem? (i := 2901) (by decide +kernel)⟩
theorem lw_p154 : lw_okq (⟨"StaveHouseModel", "byteAt", "(I)I"⟩, 107) := ⟨⟨by decide +kernel, by decide +kernel⟩, List.mem_of_getElem? (i := 2033) (by decide +kernel), List.mem_of_getElem? (i := 2904) (by decide +kernel), List.mem_of_getElem? (i := 2905) (by decide +kernel)⟩
theorem lw_p155 : lw_okq (⟨"StaveHouseModel", "whole", "(I)J"⟩, 107) := ⟨⟨by decide +kernel, by decide +kernel⟩, List.mem_of_getElem? (i := 2033) (by decide +kernel), List.mem_of_getElem? (i := 2908) (by decide +kernel), List.mem_of_getElem? (i := 2909) (by decide +kernel)⟩
theorem lw_p156 : lw_okq (⟨"StaveHouseModel", "within", "(III)I"⟩, 107) := ⟨⟨by decide +kernel, by decide +kernel⟩, List.mem_of_getElem? (i := 2033) (by decide +kernel), List.mem_of_getElem? (i := 2913) (by decide +kernel), List.mem_of_getElem? (i := 2914) (by decide +kernel)⟩
theorem lw_p157 : lw_okq (⟨"StaveHouseModel", "isTrack", "()Z"⟩, 107) := ⟨⟨by decide +kernel, by decide +kernel⟩, List.mem_of_getElem? (i := 2033) (by decide +kernel), List.mem_of_getElem? (i := 2917) (by decide +kernel), List.mem_of_getElem? (i := 2918) (by decide +kernel)⟩
theorem lw_p158 : lw_okq (⟨"StaveHouseModel", "track0", "(I)V"⟩, 107) := ⟨⟨by decide +kernel, by decide +kernel⟩, List.mem_of_getElem? (i := 2033) (by decide +kernel), List.mem_of_getElem? (i := 2921) (by decide +kernel), List.mem_of_getElem? (i := 2922) (by decide +kernel)⟩
theorem lw_p159 : lw_okq (⟨"StaveHouseModel", "seven", "()I"⟩, 107) := ⟨⟨by decide +kernel, by decide +kernel⟩, List.mem_of_getElem? (i := 2033) (by decide +kernel), List.mem_of_getElem? (i := 2925) (by decide +kernel), List.mem_of_getElem? (i := 2926) (by decide +kernel)⟩
def lw_privs_10 : List (MethodName × Nat) := [(⟨"StaveHouseModel", "beginTrack", "()I"⟩, 107), (⟨"StaveHouseModel", "endTrack", "(I)V"⟩, 107), (⟨"StaveHouseModel", "voiceTrack", "(LStaveHouseModel$Piece;I)V"⟩, 107), (⟨"StaveHouseModel", "word", "(J)V"⟩, 107), (⟨"StaveHouseModel", "delta", "(I)V"⟩, 107), (⟨"StaveHouseModel", "header", "()J"⟩, 107), (⟨"StaveHouseModel", "expect", "(Ljava/lang/String;)V"⟩, 107), (⟨"StaveHouseModel", "next", "()I"⟩, 107), (⟨"StaveHouseModel", "good", "()Z"⟩, 107), (⟨"StaveHouseModel", "failByte", "(II)V"⟩, 107), (⟨"StaveHouseModel", "byteAt", "(I)I"⟩, 107), (⟨"StaveHouseModel", "whole", "(I)J"⟩, 107), (⟨"StaveHouseModel", "within", "(III)I"⟩, 107), (⟨"StaveHouseModel", "isTrack", "()Z"⟩, 107), (⟨"StaveHouseModel", "track0", "(I)V"⟩, 107), (⟨"StaveHouseModel", "seven", "()I"⟩, 107)]
theorem lw_r10 : ∀ q ∈ lw_privs_10, lw_okq q := List.forall_mem_cons.mpr ⟨lw_p144, List.forall_mem_cons.mpr ⟨lw_p145, List.forall_mem_cons.mpr ⟨lw_p146, List.forall_mem_cons.mpr ⟨lw_p147, List.forall_mem_cons.mpr ⟨lw_p148, List.forall_mem_cons.mpr ⟨lw_p149, List.forall_mem_cons.mpr ⟨lw_p150, List.forall_mem_cons.mpr ⟨lw_p151, List.forall_mem_cons.mpr ⟨lw_p152, List.forall_mem_cons.mpr ⟨lw_p153, List.forall_mem_cons.mpr ⟨lw_p154, List.forall_mem_cons.mpr ⟨lw_p155, List.forall_mem_cons.mpr ⟨lw_p156, List.forall_mem_cons.mpr ⟨lw_p157, List.forall_mem_cons.mpr ⟨lw_p158, List.forall_mem_cons.mpr ⟨lw_p159, fun _ h => absurd h List.not_mem_nil⟩⟩⟩⟩⟩⟩⟩⟩⟩⟩⟩⟩⟩⟩⟩⟩
theorem lw_p160 : lw_okq (⟨"StaveHouseModel", "meta", "()Z"⟩, 107) := ⟨⟨by decide +kernel, by decide +kernel⟩, List.mem_of_getElem? (i := 2033) (by decide +kernel), List.mem_of_getElem? (i := 2929) (by decide +kernel), List.mem_of_getElem? (i := 2930) (by decide +kernel)⟩
theorem lw_p161 : lw_okq (⟨"StaveHouseModel", "below", "()I"⟩, 107) := ⟨⟨by decide +kernel, by decide +kernel⟩, List.mem_of_getElem? (i := 2033) (by decide +kernel), List.mem_of_getElem? (i := 2933) (by decide +kernel), List.mem_of_getElem? (i := 2934) (by decide +kernel)⟩
theorem lw_p162 : lw_okq (⟨"StaveHouseModel", "event", "(IIIIIJI)V"⟩, 107) := ⟨⟨by decide +kernel, by decide +kernel⟩, List.mem_of_getElem? (i := 2033) (by decide +kernel), List.mem_of_getElem? (i := 2937) (by decide +kernel), List.mem_of_getElem? (i := 2938) (by decide +kernel)⟩
theorem lw_p163 : lw_okq (⟨"StaveHouseModel", "keep", "()V"⟩, 107) := ⟨⟨by decide +kernel, by decide +kernel⟩, List.mem_of_getElem? (i := 2033) (by decide +kernel), List.mem_of_getElem? (i := 2941) (by decide +kernel), List.mem_of_getElem? (i := 2942) (by decide +kernel)⟩
theorem lw_p164 : lw_okq (⟨"StaveHouseModel", "hasSounds", "(I)Z"⟩, 107) := ⟨⟨by decide +kernel, by decide +kernel⟩, List.mem_of_getElem? (i := 2033) (by decide +kernel), List.mem_of_getElem? (i := 2958) (by decide +kernel), List.mem_of_getElem? (i := 2959) (by decide +kernel)⟩
theorem lw_p165 : lw_okq (⟨"StaveHouseModel", "trackEvents", "(III)J"⟩, 107) := ⟨⟨by decide +kernel, by decide +kernel⟩, List.mem_of_getElem? (i := 2033) (by decide +kernel), List.mem_of_getElem? (i := 2962) (by decide +kernel), List.mem_of_getElem? (i := 2963) (by decide +kernel)⟩
theorem lw_p166 : lw_okq (⟨"StaveHouseModel", "gridPlace", "(JI)J"⟩, 107) := ⟨⟨by decide +kernel, by decide +kernel⟩, List.mem_of_getElem? (i := 2033) (by decide +kernel), List.mem_of_getElem? (i := 2966) (by decide +kernel), List.mem_of_getElem? (i := 2967) (by decide +kernel)⟩
theorem lw_p167 : lw_okq (⟨"StaveHouseModel", "downEvent", "(IJII)V"⟩, 107) := ⟨⟨by decide +kernel, by decide +kernel⟩, List.mem_of_getElem? (i := 2033) (by decide +kernel), List.mem_of_getElem? (i := 2972) (by decide +kernel), List.mem_of_getElem? (i := 2973) (by decide +kernel)⟩
theorem lw_p168 : lw_okq (⟨"StaveHouseModel", "spell", "(II)V"⟩, 107) := ⟨⟨by decide +kernel, by decide +kernel⟩, List.mem_of_getElem? (i := 2033) (by decide +kernel), List.mem_of_getElem? (i := 2976) (by decide +kernel), List.mem_of_getElem? (i := 2977) (by decide +kernel)⟩
theorem lw_p169 : lw_okq (⟨"StaveHouseModel", "six", "(II)I"⟩, 107) := ⟨⟨by decide +kernel, by decide +kernel⟩, List.mem_of_getElem? (i := 2033) (by decide +kernel), List.mem_of_getElem? (i := 2980) (by decide +kernel), List.mem_of_getElem? (i := 2981) (by decide +kernel)⟩
theorem lw_p170 : lw_okq (⟨"StaveHouseModel", "downHeads", "()V"⟩, 107) := ⟨⟨by decide +kernel, by decide +kernel⟩, List.mem_of_getElem? (i := 2033) (by decide +kernel), List.mem_of_getElem? (i := 2988) (by decide +kernel), List.mem_of_getElem? (i := 2989) (by decide +kernel)⟩
theorem lw_p171 : lw_okq (⟨"StaveHouseModel", "digits", "(I)V"⟩, 107) := ⟨⟨by decide +kernel, by decide +kernel⟩, List.mem_of_getElem? (i := 2033) (by decide +kernel), List.mem_of_getElem? (i := 2993) (by decide +kernel), List.mem_of_getElem? (i := 2994) (by decide +kernel)⟩
theorem lw_p172 : lw_okq (⟨"StaveHouseModel", "downVoice", "(IJI)V"⟩, 107) := ⟨⟨by decide +kernel, by decide +kernel⟩, List.mem_of_getElem? (i := 2033) (by decide +kernel), List.mem_of_getElem? (i := 3001) (by decide +kernel), List.mem_of_getElem? (i := 3002) (by decide +kernel)⟩
theorem lw_p173 : lw_okq (⟨"StaveHouseModel", "places", "(LStaveHouseModel$Piece;I)V"⟩, 107) := ⟨⟨by decide +kernel, by decide +kernel⟩, List.mem_of_getElem? (i := 2033) (by decide +kernel), List.mem_of_getElem? (i := 3009) (by decide +kernel), List.mem_of_getElem? (i := 3010) (by decide +kernel)⟩
theorem lw_p174 : lw_okq (⟨"StaveHouseModel", "minus", "(JJJJ)V"⟩, 107) := ⟨⟨by decide +kernel, by decide +kernel⟩, List.mem_of_getElem? (i := 2033) (by decide +kernel), List.mem_of_getElem? (i := 3013) (by decide +kernel), List.mem_of_getElem? (i := 3014) (by decide +kernel)⟩
theorem lw_p175 : lw_okq (⟨"StaveHouseModel", "notes", "(LStaveHouseModel$Piece;IZ)I"⟩, 107) := ⟨⟨by decide +kernel, by decide +kernel⟩, List.mem_of_getElem? (i := 2033) (by decide +kernel), List.mem_of_getElem? (i := 3017) (by decide +kernel), List.mem_of_getElem? (i := 3018) (by decide +kernel)⟩
def lw_privs_11 : List (MethodName × Nat) := [(⟨"StaveHouseModel", "meta", "()Z"⟩, 107), (⟨"StaveHouseModel", "below", "()I"⟩, 107), (⟨"StaveHouseModel", "event", "(IIIIIJI)V"⟩, 107), (⟨"StaveHouseModel", "keep", "()V"⟩, 107), (⟨"StaveHouseModel", "hasSounds", "(I)Z"⟩, 107), (⟨"StaveHouseModel", "trackEvents", "(III)J"⟩, 107), (⟨"StaveHouseModel", "gridPlace", "(JI)J"⟩, 107), (⟨"StaveHouseModel", "downEvent", "(IJII)V"⟩, 107), (⟨"StaveHouseModel", "spell", "(II)V"⟩, 107), (⟨"StaveHouseModel", "six", "(II)I"⟩, 107), (⟨"StaveHouseModel", "downHeads", "()V"⟩, 107), (⟨"StaveHouseModel", "digits", "(I)V"⟩, 107), (⟨"StaveHouseModel", "downVoice", "(IJI)V"⟩, 107), (⟨"StaveHouseModel", "places", "(LStaveHouseModel$Piece;I)V"⟩, 107), (⟨"StaveHouseModel", "minus", "(JJJJ)V"⟩, 107), (⟨"StaveHouseModel", "notes", "(LStaveHouseModel$Piece;IZ)I"⟩, 107)]
theorem lw_r11 : ∀ q ∈ lw_privs_11, lw_okq q := List.forall_mem_cons.mpr ⟨lw_p160, List.forall_mem_cons.mpr ⟨lw_p161, List.forall_mem_cons.mpr ⟨lw_p162, List.forall_mem_cons.mpr ⟨lw_p163, List.forall_mem_cons.mpr ⟨lw_p164, List.forall_mem_cons.mpr ⟨lw_p165, List.forall_mem_cons.mpr ⟨lw_p166, List.forall_mem_cons.mpr ⟨lw_p167, List.forall_mem_cons.mpr ⟨lw_p168, List.forall_mem_cons.mpr ⟨lw_p169, List.forall_mem_cons.mpr ⟨lw_p170, List.forall_mem_cons.mpr ⟨lw_p171, List.forall_mem_cons.mpr ⟨lw_p172, List.forall_mem_cons.mpr ⟨lw_p173, List.forall_mem_cons.mpr ⟨lw_p174, List.forall_mem_cons.mpr ⟨lw_p175, fun _ h => absurd h List.not_mem_nil⟩⟩⟩⟩⟩⟩⟩⟩⟩⟩⟩⟩⟩⟩⟩⟩
theorem lw_p176 : lw_okq (⟨"StaveHouseModel", "pieces", "(LStaveHouseModel$Piece;IIJJJJZ)V"⟩, 107) := ⟨⟨by decide +kernel, by decide +kernel⟩, List.mem_of_getElem? (i := 2033) (by decide +kernel), List.mem_of_getElem? (i := 3021) (by decide +kernel), List.mem_of_getElem? (i := 3022) (by decide +kernel)⟩
theorem lw_p177 : lw_okq (⟨"StaveHouseModel", "part", "(LStaveHouseModel$Piece;IIIJJZ)V"⟩, 107) := ⟨⟨by decide +kernel, by decide +kernel⟩, List.mem_of_getElem? (i := 2033) (by decide +kernel), List.mem_of_getElem? (i := 3028) (by decide +kernel), List.mem_of_getElem? (i := 3029) (by decide +kernel)⟩
theorem lw_p178 : lw_okq (⟨"StaveHouseModel", "note", "(LStaveHouseModel$Piece;IIIII)V"⟩, 107) := ⟨⟨by decide +kernel, by decide +kernel⟩, List.mem_of_getElem? (i := 2033) (by decide +kernel), List.mem_of_getElem? (i := 3032) (by decide +kernel), List.mem_of_getElem? (i := 3033) (by decide +kernel)⟩
theorem lw_p179 : lw_okq (⟨"StaveHouseModel", "times", "(JJJJ)V"⟩, 107) := ⟨⟨by decide +kernel, by decide +kernel⟩, List.mem_of_getElem? (i := 2033) (by decide +kernel), List.mem_of_getElem? (i := 3036) (by decide +kernel), List.mem_of_getElem? (i := 3037) (by decide +kernel)⟩
theorem lw_p180 : lw_okq (⟨"StaveHouseModel", "choose", "(LStaveHouseModel$Piece;Z)Z"⟩, 107) := ⟨⟨by decide +kernel, by decide +kernel⟩, List.mem_of_getElem? (i := 2033) (by decide +kernel), List.mem_of_getElem? (i := 3040) (by decide +kernel), List.mem_of_getElem? (i := 3041) (by decide +kernel)⟩
theorem lw_p181 : lw_okq (⟨"StaveHouseModel", "stands", "(LStaveHouseModel$Piece;JJ)Z"⟩, 107) := ⟨⟨by decide +kernel, by decide +kernel⟩, List.mem_of_getElem? (i := 2033) (by decide +kernel), List.mem_of_getElem? (i := 3052) (by decide +kernel), List.mem_of_getElem? (i := 3053) (by decide +kernel)⟩
theorem lw_p182 : lw_okq (⟨"StaveHouseModel", "strength", "(LStaveHouseModel$Piece;JJ)I"⟩, 107) := ⟨⟨by decide +kernel, by decide +kernel⟩, List.mem_of_getElem? (i := 2033) (by decide +kernel), List.mem_of_getElem? (i := 3056) (by decide +kernel), List.mem_of_getElem? (i := 3057) (by decide +kernel)⟩
theorem lw_p183 : lw_okq (⟨"StaveHouseModel", "between", "(LStaveHouseModel$Piece;JJJJ)I"⟩, 107) := ⟨⟨by decide +kernel, by decide +kernel⟩, List.mem_of_getElem? (i := 2033) (by decide +kernel), List.mem_of_getElem? (i := 3069) (by decide +kernel), List.mem_of_getElem? (i := 3070) (by decide +kernel)⟩
theorem lw_p184 : lw_okq (⟨"StaveHouseModel", "downNote", "(IIZ)V"⟩, 107) := ⟨⟨by decide +kernel, by decide +kernel⟩, List.mem_of_getElem? (i := 2033) (by decide +kernel), List.mem_of_getElem? (i := 3076) (by decide +kernel), List.mem_of_getElem? (i := 3077) (by decide +kernel)⟩
theorem lw_p185 : lw_okq (⟨"StaveHouseModel", "mixed", "(LStaveHouseModel$Piece;I)I"⟩, 107) := ⟨⟨by decide +kernel, by decide +kernel⟩, List.mem_of_getElem? (i := 2033) (by decide +kernel), List.mem_of_getElem? (i := 3088) (by decide +kernel), List.mem_of_getElem? (i := 3089) (by decide +kernel)⟩
theorem lw_p186 : lw_okq (⟨"StaveHouseModel", "turn", "(I)J"⟩, 107) := ⟨⟨by decide +kernel, by decide +kernel⟩, List.mem_of_getElem? (i := 2033) (by decide +kernel), List.mem_of_getElem? (i := 3093) (by decide +kernel), List.mem_of_getElem? (i := 3094) (by decide +kernel)⟩
theorem lw_p187 : lw_okq (⟨"StaveHouseModel", "coded", "(LStaveHouseModel$Piece;)I"⟩, 107) := ⟨⟨by decide +kernel, by decide +kernel⟩, List.mem_of_getElem? (i := 2033) (by decide +kernel), List.mem_of_getElem? (i := 3125) (by decide +kernel), List.mem_of_getElem? (i := 3126) (by decide +kernel)⟩
theorem lw_p188 : lw_okq (⟨"StaveHouseModel", "chordAt", "(LStaveHouseModel$Piece;I)V"⟩, 107) := ⟨⟨by decide +kernel, by decide +kernel⟩, List.mem_of_getElem? (i := 2033) (by decide +kernel), List.mem_of_getElem? (i := 3138) (by decide +kernel), List.mem_of_getElem? (i := 3139) (by decide +kernel)⟩
theorem lw_p189 : lw_okq (⟨"StaveHouseModel", "classesAt", "(LStaveHouseModel$Piece;I)V"⟩, 107) := ⟨⟨by decide +kernel, by decide +kernel⟩, List.mem_of_getElem? (i := 2033) (by decide +kernel), List.mem_of_getElem? (i := 3142) (by decide +kernel), List.mem_of_getElem? (i := 3143) (by decide +kernel)⟩
theorem lw_p190 : lw_okq (⟨"StaveHouseModel", "classOf", "(II)V"⟩, 107) := ⟨⟨by decide +kernel, by decide +kernel⟩, List.mem_of_getElem? (i := 2033) (by decide +kernel), List.mem_of_getElem? (i := 3146) (by decide +kernel), List.mem_of_getElem? (i := 3147) (by decide +kernel)⟩
theorem lw_p191 : lw_okq (⟨"StaveHouseModel", "kindOn", "(I)I"⟩, 107) := ⟨⟨by decide +kernel, by decide +kernel⟩, List.mem_of_getElem? (i := 2033) (by decide +kernel), List.mem_of_getElem? (i := 3150) (by decide +kernel), List.mem_of_getElem? (i := 3151) (by decide +kernel)⟩
def lw_privs_12 : List (MethodName × Nat) := [(⟨"StaveHouseModel", "pieces", "(LStaveHouseModel$Piece;IIJJJJZ)V"⟩, 107), (⟨"StaveHouseModel", "part", "(LStaveHouseModel$Piece;IIIJJZ)V"⟩, 107), (⟨"StaveHouseModel", "note", "(LStaveHouseModel$Piece;IIIII)V"⟩, 107), (⟨"StaveHouseModel", "times", "(JJJJ)V"⟩, 107), (⟨"StaveHouseModel", "choose", "(LStaveHouseModel$Piece;Z)Z"⟩, 107), (⟨"StaveHouseModel", "stands", "(LStaveHouseModel$Piece;JJ)Z"⟩, 107), (⟨"StaveHouseModel", "strength", "(LStaveHouseModel$Piece;JJ)I"⟩, 107), (⟨"StaveHouseModel", "between", "(LStaveHouseModel$Piece;JJJJ)I"⟩, 107), (⟨"StaveHouseModel", "downNote", "(IIZ)V"⟩, 107), (⟨"StaveHouseModel", "mixed", "(LStaveHouseModel$Piece;I)I"⟩, 107), (⟨"StaveHouseModel", "turn", "(I)J"⟩, 107), (⟨"StaveHouseModel", "coded", "(LStaveHouseModel$Piece;)I"⟩, 107), (⟨"StaveHouseModel", "chordAt", "(LStaveHouseModel$Piece;I)V"⟩, 107), (⟨"StaveHouseModel", "classesAt", "(LStaveHouseModel$Piece;I)V"⟩, 107), (⟨"StaveHouseModel", "classOf", "(II)V"⟩, 107), (⟨"StaveHouseModel", "kindOn", "(I)I"⟩, 107)]
theorem lw_r12 : ∀ q ∈ lw_privs_12, lw_okq q := List.forall_mem_cons.mpr ⟨lw_p176, List.forall_mem_cons.mpr ⟨lw_p177, List.forall_mem_cons.mpr ⟨lw_p178, List.forall_mem_cons.mpr ⟨lw_p179, List.forall_mem_cons.mpr ⟨lw_p180, List.forall_mem_cons.mpr ⟨lw_p181, List.forall_mem_cons.mpr ⟨lw_p182, List.forall_mem_cons.mpr ⟨lw_p183, List.forall_mem_cons.mpr ⟨lw_p184, List.forall_mem_cons.mpr ⟨lw_p185, List.forall_mem_cons.mpr ⟨lw_p186, List.forall_mem_cons.mpr ⟨lw_p187, List.forall_mem_cons.mpr ⟨lw_p188, List.forall_mem_cons.mpr ⟨lw_p189, List.forall_mem_cons.mpr ⟨lw_p190, List.forall_mem_cons.mpr ⟨lw_p191, fun _ h => absurd h List.not_mem_nil⟩⟩⟩⟩⟩⟩⟩⟩⟩⟩⟩⟩⟩⟩⟩⟩
theorem lw_p192 : lw_okq (⟨"StaveHouseModel", "above", "(II)I"⟩, 107) := ⟨⟨by decide +kernel, by decide +kernel⟩, List.mem_of_getElem? (i := 2033) (by decide +kernel), List.mem_of_getElem? (i := 3154) (by decide +kernel), List.mem_of_getElem? (i := 3155) (by decide +kernel)⟩
theorem lw_p193 : lw_okq (⟨"StaveHouseModel", "isForeign", "(LStaveHouseModel$Piece;)Z"⟩, 107) := ⟨⟨by decide +kernel, by decide +kernel⟩, List.mem_of_getElem? (i := 2033) (by decide +kernel), List.mem_of_getElem? (i := 3167) (by decide +kernel), List.mem_of_getElem? (i := 3168) (by decide +kernel)⟩
theorem lw_p194 : lw_okq (⟨"StaveHouseModel", "isShape", "(LStaveHouseModel$Piece;IILStaveHouseModel$Piece;II)Z"⟩, 107) := ⟨⟨by decide +kernel, by decide +kernel⟩, List.mem_of_getElem? (i := 2033) (by decide +kernel), List.mem_of_getElem? (i := 3192) (by decide +kernel), List.mem_of_getElem? (i := 3193) (by decide +kernel)⟩
theorem lw_p195 : lw_okq (⟨"StaveHouseModel", "isLength", "(LStaveHouseModel$Piece;IILStaveHouseModel$Piece;IIZ)Z"⟩, 107) := ⟨⟨by decide +kernel, by decide +kernel⟩, List.mem_of_getElem? (i := 2033) (by decide +kernel), List.mem_of_getElem? (i := 3196) (by decide +kernel), List.mem_of_getElem? (i := 3197) (by decide +kernel)⟩
theorem lw_p196 : lw_okq (⟨"StaveHouseModel", "cut", "()V"⟩, 107) := ⟨⟨by decide +kernel, by decide +kernel⟩, List.mem_of_getElem? (i := 2033) (by decide +kernel), List.mem_of_getElem? (i := 3204) (by decide +kernel), List.mem_of_getElem? (i := 3205) (by decide +kernel)⟩
theorem lw_p197 : lw_okq (⟨"StaveHouseModel", "cutRun", "(I)I"⟩, 107) := ⟨⟨by decide +kernel, by decide +kernel⟩, List.mem_of_getElem? (i := 2033) (by decide +kernel), List.mem_of_getElem? (i := 3217) (by decide +kernel), List.mem_of_getElem? (i := 3218) (by decide +kernel)⟩
theorem lw_p198 : lw_okq (⟨"StaveHouseModel", "cutPitch", "(II)V"⟩, 107) := ⟨⟨by decide +kernel, by decide +kernel⟩, List.mem_of_getElem? (i := 2033) (by decide +kernel), List.mem_of_getElem? (i := 3221) (by decide +kernel), List.mem_of_getElem? (i := 3222) (by decide +kernel)⟩
theorem lw_p199 : lw_okq (⟨"StaveHouseModel", "text", "()V"⟩, 107) := ⟨⟨by decide +kernel, by decide +kernel⟩, List.mem_of_getElem? (i := 2033) (by decide +kernel), List.mem_of_getElem? (i := 3229) (by decide +kernel), List.mem_of_getElem? (i := 3230) (by decide +kernel)⟩
theorem lw_p200 : lw_okq (⟨"StaveHouseModel", "isWord", "(J)Z"⟩, 107) := ⟨⟨by decide +kernel, by decide +kernel⟩, List.mem_of_getElem? (i := 2033) (by decide +kernel), List.mem_of_getElem? (i := 3233) (by decide +kernel), List.mem_of_getElem? (i := 3234) (by decide +kernel)⟩
theorem lw_p201 : lw_okq (⟨"StaveHouseModel", "head", "()V"⟩, 107) := ⟨⟨by decide +kernel, by decide +kernel⟩, List.mem_of_getElem? (i := 2033) (by decide +kernel), List.mem_of_getElem? (i := 3237) (by decide +kernel), List.mem_of_getElem? (i := 3238) (by decide +kernel)⟩
theorem lw_p202 : lw_okq (⟨"StaveHouseModel", "headKey", "()V"⟩, 107) := ⟨⟨by decide +kernel, by decide +kernel⟩, List.mem_of_getElem? (i := 2033) (by decide +kernel), List.mem_of_getElem? (i := 3241) (by decide +kernel), List.mem_of_getElem? (i := 3242) (by decide +kernel)⟩
theorem lw_p203 : lw_okq (⟨"StaveHouseModel", "wrong", "()V"⟩, 107) := ⟨⟨by decide +kernel, by decide +kernel⟩, List.mem_of_getElem? (i := 2033) (by decide +kernel), List.mem_of_getElem? (i := 3245) (by decide +kernel), List.mem_of_getElem? (i := 3246) (by decide +kernel)⟩
theorem lw_p204 : lw_okq (⟨"StaveHouseModel", "fail", "(I)V"⟩, 107) := ⟨⟨by decide +kernel, by decide +kernel⟩, List.mem_of_getElem? (i := 2033) (by decide +kernel), List.mem_of_getElem? (i := 3249) (by decide +kernel), List.mem_of_getElem? (i := 3250) (by decide +kernel)⟩
theorem lw_p205 : lw_okq (⟨"StaveHouseModel", "failAt", "(II)V"⟩, 107) := ⟨⟨by decide +kernel, by decide +kernel⟩, List.mem_of_getElem? (i := 2033) (by decide +kernel), List.mem_of_getElem? (i := 3253) (by decide +kernel), List.mem_of_getElem? (i := 3254) (by decide +kernel)⟩
theorem lw_p206 : lw_okq (⟨"StaveHouseModel", "isSign", "(I)Z"⟩, 107) := ⟨⟨by decide +kernel, by decide +kernel⟩, List.mem_of_getElem? (i := 2033) (by decide +kernel), List.mem_of_getElem? (i := 3257) (by decide +kernel), List.mem_of_getElem? (i := 3258) (by decide +kernel)⟩
theorem lw_p207 : lw_okq (⟨"StaveHouseModel", "number", "(IIZ)I"⟩, 107) := ⟨⟨by decide +kernel, by decide +kernel⟩, List.mem_of_getElem? (i := 2033) (by decide +kernel), List.mem_of_getElem? (i := 3261) (by decide +kernel), List.mem_of_getElem? (i := 3262) (by decide +kernel)⟩
def lw_privs_13 : List (MethodName × Nat) := [(⟨"StaveHouseModel", "above", "(II)I"⟩, 107), (⟨"StaveHouseModel", "isForeign", "(LStaveHouseModel$Piece;)Z"⟩, 107), (⟨"StaveHouseModel", "isShape", "(LStaveHouseModel$Piece;IILStaveHouseModel$Piece;II)Z"⟩, 107), (⟨"StaveHouseModel", "isLength", "(LStaveHouseModel$Piece;IILStaveHouseModel$Piece;IIZ)Z"⟩, 107), (⟨"StaveHouseModel", "cut", "()V"⟩, 107), (⟨"StaveHouseModel", "cutRun", "(I)I"⟩, 107), (⟨"StaveHouseModel", "cutPitch", "(II)V"⟩, 107), (⟨"StaveHouseModel", "text", "()V"⟩, 107), (⟨"StaveHouseModel", "isWord", "(J)Z"⟩, 107), (⟨"StaveHouseModel", "head", "()V"⟩, 107), (⟨"StaveHouseModel", "headKey", "()V"⟩, 107), (⟨"StaveHouseModel", "wrong", "()V"⟩, 107), (⟨"StaveHouseModel", "fail", "(I)V"⟩, 107), (⟨"StaveHouseModel", "failAt", "(II)V"⟩, 107), (⟨"StaveHouseModel", "isSign", "(I)Z"⟩, 107), (⟨"StaveHouseModel", "number", "(IIZ)I"⟩, 107)]
theorem lw_r13 : ∀ q ∈ lw_privs_13, lw_okq q := List.forall_mem_cons.mpr ⟨lw_p192, List.forall_mem_cons.mpr ⟨lw_p193, List.forall_mem_cons.mpr ⟨lw_p194, List.forall_mem_cons.mpr ⟨lw_p195, List.forall_mem_cons.mpr ⟨lw_p196, List.forall_mem_cons.mpr ⟨lw_p197, List.forall_mem_cons.mpr ⟨lw_p198, List.forall_mem_cons.mpr ⟨lw_p199, List.forall_mem_cons.mpr ⟨lw_p200, List.forall_mem_cons.mpr ⟨lw_p201, List.forall_mem_cons.mpr ⟨lw_p202, List.forall_mem_cons.mpr ⟨lw_p203, List.forall_mem_cons.mpr ⟨lw_p204, List.forall_mem_cons.mpr ⟨lw_p205, List.forall_mem_cons.mpr ⟨lw_p206, List.forall_mem_cons.mpr ⟨lw_p207, fun _ h => absurd h List.not_mem_nil⟩⟩⟩⟩⟩⟩⟩⟩⟩⟩⟩⟩⟩⟩⟩⟩
theorem lw_p208 : lw_okq (⟨"StaveHouseModel", "need", "(I)V"⟩, 107) := ⟨⟨by decide +kernel, by decide +kernel⟩, List.mem_of_getElem? (i := 2033) (by decide +kernel), List.mem_of_getElem? (i := 3265) (by decide +kernel), List.mem_of_getElem? (i := 3266) (by decide +kernel)⟩
theorem lw_p209 : lw_okq (⟨"StaveHouseModel", "headLet", "()V"⟩, 107) := ⟨⟨by decide +kernel, by decide +kernel⟩, List.mem_of_getElem? (i := 2033) (by decide +kernel), List.mem_of_getElem? (i := 3269) (by decide +kernel), List.mem_of_getElem? (i := 3270) (by decide +kernel)⟩
theorem lw_p210 : lw_okq (⟨"StaveHouseModel", "isName", "()Z"⟩, 107) := ⟨⟨by decide +kernel, by decide +kernel⟩, List.mem_of_getElem? (i := 2033) (by decide +kernel), List.mem_of_getElem? (i := 3273) (by decide +kernel), List.mem_of_getElem? (i := 3274) (by decide +kernel)⟩
theorem lw_p211 : lw_okq (⟨"StaveHouseModel", "block", "()V"⟩, 107) := ⟨⟨by decide +kernel, by decide +kernel⟩, List.mem_of_getElem? (i := 2033) (by decide +kernel), List.mem_of_getElem? (i := 3280) (by decide +kernel), List.mem_of_getElem? (i := 3281) (by decide +kernel)⟩
theorem lw_p212 : lw_okq (⟨"StaveHouseModel", "opening", "(I)V"⟩, 107) := ⟨⟨by decide +kernel, by decide +kernel⟩, List.mem_of_getElem? (i := 2033) (by decide +kernel), List.mem_of_getElem? (i := 3284) (by decide +kernel), List.mem_of_getElem? (i := 3285) (by decide +kernel)⟩
theorem lw_p213 : lw_okq (⟨"StaveHouseModel", "item", "()V"⟩, 107) := ⟨⟨by decide +kernel, by decide +kernel⟩, List.mem_of_getElem? (i := 2033) (by decide +kernel), List.mem_of_getElem? (i := 3288) (by decide +kernel), List.mem_of_getElem? (i := 3289) (by decide +kernel)⟩
theorem lw_p214 : lw_okq (⟨"StaveHouseModel", "length", "(I)V"⟩, 107) := ⟨⟨by decide +kernel, by decide +kernel⟩, List.mem_of_getElem? (i := 2033) (by decide +kernel), List.mem_of_getElem? (i := 3292) (by decide +kernel), List.mem_of_getElem? (i := 3293) (by decide +kernel)⟩
theorem lw_p215 : lw_okq (⟨"StaveHouseModel", "marks", "(I)V"⟩, 107) := ⟨⟨by decide +kernel, by decide +kernel⟩, List.mem_of_getElem? (i := 2033) (by decide +kernel), List.mem_of_getElem? (i := 3296) (by decide +kernel), List.mem_of_getElem? (i := 3297) (by decide +kernel)⟩
theorem lw_p216 : lw_okq (⟨"StaveHouseModel", "markHere", "()I"⟩, 107) := ⟨⟨by decide +kernel, by decide +kernel⟩, List.mem_of_getElem? (i := 2033) (by decide +kernel), List.mem_of_getElem? (i := 3300) (by decide +kernel), List.mem_of_getElem? (i := 3301) (by decide +kernel)⟩
theorem lw_p217 : lw_okq (⟨"StaveHouseModel", "chord", "()V"⟩, 107) := ⟨⟨by decide +kernel, by decide +kernel⟩, List.mem_of_getElem? (i := 2033) (by decide +kernel), List.mem_of_getElem? (i := 3304) (by decide +kernel), List.mem_of_getElem? (i := 3305) (by decide +kernel)⟩
theorem lw_p218 : lw_okq (⟨"StaveHouseModel", "tuplet", "()V"⟩, 107) := ⟨⟨by decide +kernel, by decide +kernel⟩, List.mem_of_getElem? (i := 2033) (by decide +kernel), List.mem_of_getElem? (i := 3308) (by decide +kernel), List.mem_of_getElem? (i := 3309) (by decide +kernel)⟩
theorem lw_p219 : lw_okq (⟨"StaveHouseModel", "closing", "(II)V"⟩, 107) := ⟨⟨by decide +kernel, by decide +kernel⟩, List.mem_of_getElem? (i := 2033) (by decide +kernel), List.mem_of_getElem? (i := 3312) (by decide +kernel), List.mem_of_getElem? (i := 3313) (by decide +kernel)⟩
theorem lw_p220 : lw_okq (⟨"StaveHouseModel", "itemOfWord", "()V"⟩, 107) := ⟨⟨by decide +kernel, by decide +kernel⟩, List.mem_of_getElem? (i := 2033) (by decide +kernel), List.mem_of_getElem? (i := 3316) (by decide +kernel), List.mem_of_getElem? (i := 3317) (by decide +kernel)⟩
theorem lw_p221 : lw_okq (⟨"StaveHouseModel", "voiceText", "()V"⟩, 107) := ⟨⟨by decide +kernel, by decide +kernel⟩, List.mem_of_getElem? (i := 2033) (by decide +kernel), List.mem_of_getElem? (i := 3320) (by decide +kernel), List.mem_of_getElem? (i := 3321) (by decide +kernel)⟩
theorem lw_p222 : lw_okq (⟨"StaveHouseModel", "through", "()V"⟩, 107) := ⟨⟨by decide +kernel, by decide +kernel⟩, List.mem_of_getElem? (i := 2033) (by decide +kernel), List.mem_of_getElem? (i := 3324) (by decide +kernel), List.mem_of_getElem? (i := 3325) (by decide +kernel)⟩
theorem lw_p223 : lw_okq (⟨"StaveHouseModel", "walk", "(II)V"⟩, 107) := ⟨⟨by decide +kernel, by decide +kernel⟩, List.mem_of_getElem? (i := 2033) (by decide +kernel), List.mem_of_getElem? (i := 3328) (by decide +kernel), List.mem_of_getElem? (i := 3329) (by decide +kernel)⟩
def lw_privs_14 : List (MethodName × Nat) := [(⟨"StaveHouseModel", "need", "(I)V"⟩, 107), (⟨"StaveHouseModel", "headLet", "()V"⟩, 107), (⟨"StaveHouseModel", "isName", "()Z"⟩, 107), (⟨"StaveHouseModel", "block", "()V"⟩, 107), (⟨"StaveHouseModel", "opening", "(I)V"⟩, 107), (⟨"StaveHouseModel", "item", "()V"⟩, 107), (⟨"StaveHouseModel", "length", "(I)V"⟩, 107), (⟨"StaveHouseModel", "marks", "(I)V"⟩, 107), (⟨"StaveHouseModel", "markHere", "()I"⟩, 107), (⟨"StaveHouseModel", "chord", "()V"⟩, 107), (⟨"StaveHouseModel", "tuplet", "()V"⟩, 107), (⟨"StaveHouseModel", "closing", "(II)V"⟩, 107), (⟨"StaveHouseModel", "itemOfWord", "()V"⟩, 107), (⟨"StaveHouseModel", "voiceText", "()V"⟩, 107), (⟨"StaveHouseModel", "through", "()V"⟩, 107), (⟨"StaveHouseModel", "walk", "(II)V"⟩, 107)]
theorem lw_r14 : ∀ q ∈ lw_privs_14, lw_okq q := List.forall_mem_cons.mpr ⟨lw_p208, List.forall_mem_cons.mpr ⟨lw_p209, List.forall_mem_cons.mpr ⟨lw_p210, List.forall_mem_cons.mpr ⟨lw_p211, List.forall_mem_cons.mpr ⟨lw_p212, List.forall_mem_cons.mpr ⟨lw_p213, List.forall_mem_cons.mpr ⟨lw_p214, List.forall_mem_cons.mpr ⟨lw_p215, List.forall_mem_cons.mpr ⟨lw_p216, List.forall_mem_cons.mpr ⟨lw_p217, List.forall_mem_cons.mpr ⟨lw_p218, List.forall_mem_cons.mpr ⟨lw_p219, List.forall_mem_cons.mpr ⟨lw_p220, List.forall_mem_cons.mpr ⟨lw_p221, List.forall_mem_cons.mpr ⟨lw_p222, List.forall_mem_cons.mpr ⟨lw_p223, fun _ h => absurd h List.not_mem_nil⟩⟩⟩⟩⟩⟩⟩⟩⟩⟩⟩⟩⟩⟩⟩⟩
theorem lw_p224 : lw_okq (⟨"StaveHouseModel", "counts", "(I)V"⟩, 107) := ⟨⟨by decide +kernel, by decide +kernel⟩, List.mem_of_getElem? (i := 2033) (by decide +kernel), List.mem_of_getElem? (i := 3332) (by decide +kernel), List.mem_of_getElem? (i := 3333) (by decide +kernel)⟩
theorem lw_p225 : lw_okq (⟨"StaveHouseModel", "go", "(I)V"⟩, 107) := ⟨⟨by decide +kernel, by decide +kernel⟩, List.mem_of_getElem? (i := 2033) (by decide +kernel), List.mem_of_getElem? (i := 3336) (by decide +kernel), List.mem_of_getElem? (i := 3337) (by decide +kernel)⟩
theorem lw_p226 : lw_okq (⟨"StaveHouseModel", "event", "(I)V"⟩, 107) := ⟨⟨by decide +kernel, by decide +kernel⟩, List.mem_of_getElem? (i := 2033) (by decide +kernel), List.mem_of_getElem? (i := 3340) (by decide +kernel), List.mem_of_getElem? (i := 3341) (by decide +kernel)⟩
theorem lw_p227 : lw_okq (⟨"StaveHouseModel", "valueOf", "(I)I"⟩, 107) := ⟨⟨by decide +kernel, by decide +kernel⟩, List.mem_of_getElem? (i := 2033) (by decide +kernel), List.mem_of_getElem? (i := 3344) (by decide +kernel), List.mem_of_getElem? (i := 3345) (by decide +kernel)⟩
theorem lw_p228 : lw_okq (⟨"StaveHouseModel", "behindPitches", "(I)I"⟩, 107) := ⟨⟨by decide +kernel, by decide +kernel⟩, List.mem_of_getElem? (i := 2033) (by decide +kernel), List.mem_of_getElem? (i := 3349) (by decide +kernel), List.mem_of_getElem? (i := 3350) (by decide +kernel)⟩
theorem lw_p229 : lw_okq (⟨"StaveHouseModel", "pitchOf", "(II)V"⟩, 107) := ⟨⟨by decide +kernel, by decide +kernel⟩, List.mem_of_getElem? (i := 2033) (by decide +kernel), List.mem_of_getElem? (i := 3353) (by decide +kernel), List.mem_of_getElem? (i := 3354) (by decide +kernel)⟩
theorem lw_p230 : lw_okq (⟨"StaveHouseModel", "goSign", "(I)V"⟩, 107) := ⟨⟨by decide +kernel, by decide +kernel⟩, List.mem_of_getElem? (i := 2033) (by decide +kernel), List.mem_of_getElem? (i := 3357) (by decide +kernel), List.mem_of_getElem? (i := 3358) (by decide +kernel)⟩
theorem lw_p231 : lw_okq (⟨"StaveHouseModel", "goRepeat", "(I)V"⟩, 107) := ⟨⟨by decide +kernel, by decide +kernel⟩, List.mem_of_getElem? (i := 2033) (by decide +kernel), List.mem_of_getElem? (i := 3361) (by decide +kernel), List.mem_of_getElem? (i := 3362) (by decide +kernel)⟩
theorem lw_p232 : lw_okq (⟨"StaveHouseModel", "goUse", "(I)V"⟩, 107) := ⟨⟨by decide +kernel, by decide +kernel⟩, List.mem_of_getElem? (i := 2033) (by decide +kernel), List.mem_of_getElem? (i := 3365) (by decide +kernel), List.mem_of_getElem? (i := 3366) (by decide +kernel)⟩
theorem lw_p233 : lw_okq (⟨"StaveHouseModel", "goChange", "(I)V"⟩, 107) := ⟨⟨by decide +kernel, by decide +kernel⟩, List.mem_of_getElem? (i := 2033) (by decide +kernel), List.mem_of_getElem? (i := 3369) (by decide +kernel), List.mem_of_getElem? (i := 3370) (by decide +kernel)⟩
theorem lw_p234 : lw_okq (⟨"StaveHouseModel", "goBack", "(I)V"⟩, 107) := ⟨⟨by decide +kernel, by decide +kernel⟩, List.mem_of_getElem? (i := 2033) (by decide +kernel), List.mem_of_getElem? (i := 3373) (by decide +kernel), List.mem_of_getElem? (i := 3374) (by decide +kernel)⟩
theorem lw_p235 : lw_okq (⟨"StaveHouseModel", "exchange", "(II)V"⟩, 107) := ⟨⟨by decide +kernel, by decide +kernel⟩, List.mem_of_getElem? (i := 2033) (by decide +kernel), List.mem_of_getElem? (i := 3377) (by decide +kernel), List.mem_of_getElem? (i := 3378) (by decide +kernel)⟩
theorem lw_p236 : lw_okq (⟨"StaveHouseModel", "goSlow", "(I)V"⟩, 107) := ⟨⟨by decide +kernel, by decide +kernel⟩, List.mem_of_getElem? (i := 2033) (by decide +kernel), List.mem_of_getElem? (i := 3387) (by decide +kernel), List.mem_of_getElem? (i := 3388) (by decide +kernel)⟩
theorem lw_p237 : lw_okq (⟨"StaveHouseModel", "power", "(II)V"⟩, 107) := ⟨⟨by decide +kernel, by decide +kernel⟩, List.mem_of_getElem? (i := 2033) (by decide +kernel), List.mem_of_getElem? (i := 3391) (by decide +kernel), List.mem_of_getElem? (i := 3392) (by decide +kernel)⟩
theorem lw_p238 : lw_okq (⟨"StaveHouseModel", "judge", "()V"⟩, 107) := ⟨⟨by decide +kernel, by decide +kernel⟩, List.mem_of_getElem? (i := 2033) (by decide +kernel), List.mem_of_getElem? (i := 3395) (by decide +kernel), List.mem_of_getElem? (i := 3396) (by decide +kernel)⟩
theorem lw_p239 : lw_okq (⟨"StaveHouseModel", "judgeOuter", "(I)V"⟩, 107) := ⟨⟨by decide +kernel, by decide +kernel⟩, List.mem_of_getElem? (i := 2033) (by decide +kernel), List.mem_of_getElem? (i := 3399) (by decide +kernel), List.mem_of_getElem? (i := 3400) (by decide +kernel)⟩
def lw_privs_15 : List (MethodName × Nat) := [(⟨"StaveHouseModel", "counts", "(I)V"⟩, 107), (⟨"StaveHouseModel", "go", "(I)V"⟩, 107), (⟨"StaveHouseModel", "event", "(I)V"⟩, 107), (⟨"StaveHouseModel", "valueOf", "(I)I"⟩, 107), (⟨"StaveHouseModel", "behindPitches", "(I)I"⟩, 107), (⟨"StaveHouseModel", "pitchOf", "(II)V"⟩, 107), (⟨"StaveHouseModel", "goSign", "(I)V"⟩, 107), (⟨"StaveHouseModel", "goRepeat", "(I)V"⟩, 107), (⟨"StaveHouseModel", "goUse", "(I)V"⟩, 107), (⟨"StaveHouseModel", "goChange", "(I)V"⟩, 107), (⟨"StaveHouseModel", "goBack", "(I)V"⟩, 107), (⟨"StaveHouseModel", "exchange", "(II)V"⟩, 107), (⟨"StaveHouseModel", "goSlow", "(I)V"⟩, 107), (⟨"StaveHouseModel", "power", "(II)V"⟩, 107), (⟨"StaveHouseModel", "judge", "()V"⟩, 107), (⟨"StaveHouseModel", "judgeOuter", "(I)V"⟩, 107)]
theorem lw_r15 : ∀ q ∈ lw_privs_15, lw_okq q := List.forall_mem_cons.mpr ⟨lw_p224, List.forall_mem_cons.mpr ⟨lw_p225, List.forall_mem_cons.mpr ⟨lw_p226, List.forall_mem_cons.mpr ⟨lw_p227, List.forall_mem_cons.mpr ⟨lw_p228, List.forall_mem_cons.mpr ⟨lw_p229, List.forall_mem_cons.mpr ⟨lw_p230, List.forall_mem_cons.mpr ⟨lw_p231, List.forall_mem_cons.mpr ⟨lw_p232, List.forall_mem_cons.mpr ⟨lw_p233, List.forall_mem_cons.mpr ⟨lw_p234, List.forall_mem_cons.mpr ⟨lw_p235, List.forall_mem_cons.mpr ⟨lw_p236, List.forall_mem_cons.mpr ⟨lw_p237, List.forall_mem_cons.mpr ⟨lw_p238, List.forall_mem_cons.mpr ⟨lw_p239, fun _ h => absurd h List.not_mem_nil⟩⟩⟩⟩⟩⟩⟩⟩⟩⟩⟩⟩⟩⟩⟩⟩
theorem lw_p240 : lw_okq (⟨"StaveHouseModel", "staves", "(LStaveHouseModel$Piece;)V"⟩, 107) := ⟨⟨by decide +kernel, by decide +kernel⟩, List.mem_of_getElem? (i := 2033) (by decide +kernel), List.mem_of_getElem? (i := 3409) (by decide +kernel), List.mem_of_getElem? (i := 3410) (by decide +kernel)⟩
theorem lw_p241 : lw_okq (⟨"StaveHouseModel", "holds", "(LStaveHouseModel$Piece;I)V"⟩, 107) := ⟨⟨by decide +kernel, by decide +kernel⟩, List.mem_of_getElem? (i := 2033) (by decide +kernel), List.mem_of_getElem? (i := 3413) (by decide +kernel), List.mem_of_getElem? (i := 3414) (by decide +kernel)⟩
theorem lw_p242 : lw_okq (⟨"StaveHouseModel", "accidentals", "(LStaveHouseModel$Piece;I)V"⟩, 107) := ⟨⟨by decide +kernel, by decide +kernel⟩, List.mem_of_getElem? (i := 2033) (by decide +kernel), List.mem_of_getElem? (i := 3417) (by decide +kernel), List.mem_of_getElem? (i := 3418) (by decide +kernel)⟩
theorem lw_p243 : lw_okq (⟨"StaveHouseModel", "comesOn", "(LStaveHouseModel$Piece;IIII)Z"⟩, 107) := ⟨⟨by decide +kernel, by decide +kernel⟩, List.mem_of_getElem? (i := 2033) (by decide +kernel), List.mem_of_getElem? (i := 3421) (by decide +kernel), List.mem_of_getElem? (i := 3422) (by decide +kernel)⟩
theorem lw_p244 : lw_okq (⟨"StaveHouseModel", "ledgers", "(LStaveHouseModel$Piece;II)I"⟩, 107) := ⟨⟨by decide +kernel, by decide +kernel⟩, List.mem_of_getElem? (i := 2033) (by decide +kernel), List.mem_of_getElem? (i := 3425) (by decide +kernel), List.mem_of_getElem? (i := 3426) (by decide +kernel)⟩
theorem lw_p245 : lw_okq (⟨"StaveHouseModel", "groups", "(LStaveHouseModel$Piece;I)V"⟩, 107) := ⟨⟨by decide +kernel, by decide +kernel⟩, List.mem_of_getElem? (i := 2033) (by decide +kernel), List.mem_of_getElem? (i := 3438) (by decide +kernel), List.mem_of_getElem? (i := 3439) (by decide +kernel)⟩
theorem lw_p246 : lw_okq (⟨"StaveHouseModel", "isTogether", "(LStaveHouseModel$Piece;III)Z"⟩, 107) := ⟨⟨by decide +kernel, by decide +kernel⟩, List.mem_of_getElem? (i := 2033) (by decide +kernel), List.mem_of_getElem? (i := 3442) (by decide +kernel), List.mem_of_getElem? (i := 3443) (by decide +kernel)⟩
theorem lw_p247 : lw_okq (⟨"StaveHouseModel", "isBeamed", "(LStaveHouseModel$Piece;II)Z"⟩, 107) := ⟨⟨by decide +kernel, by decide +kernel⟩, List.mem_of_getElem? (i := 2033) (by decide +kernel), List.mem_of_getElem? (i := 3446) (by decide +kernel), List.mem_of_getElem? (i := 3447) (by decide +kernel)⟩
theorem lw_p248 : lw_okq (⟨"StaveHouseModel", "columns", "(LStaveHouseModel$Piece;)V"⟩, 107) := ⟨⟨by decide +kernel, by decide +kernel⟩, List.mem_of_getElem? (i := 2033) (by decide +kernel), List.mem_of_getElem? (i := 3450) (by decide +kernel), List.mem_of_getElem? (i := 3451) (by decide +kernel)⟩
theorem lw_p249 : lw_okq (⟨"StaveHouseModel", "column", "(LStaveHouseModel$Piece;IIJJ)I"⟩, 107) := ⟨⟨by decide +kernel, by decide +kernel⟩, List.mem_of_getElem? (i := 2033) (by decide +kernel), List.mem_of_getElem? (i := 3454) (by decide +kernel), List.mem_of_getElem? (i := 3455) (by decide +kernel)⟩
theorem lw_p250 : lw_okq (⟨"StaveHouseModel", "wide", "(LStaveHouseModel$Piece;II)I"⟩, 107) := ⟨⟨by decide +kernel, by decide +kernel⟩, List.mem_of_getElem? (i := 2033) (by decide +kernel), List.mem_of_getElem? (i := 3458) (by decide +kernel), List.mem_of_getElem? (i := 3459) (by decide +kernel)⟩
theorem lw_p251 : lw_okq (⟨"StaveHouseModel", "moments", "(LStaveHouseModel$Piece;)V"⟩, 107) := ⟨⟨by decide +kernel, by decide +kernel⟩, List.mem_of_getElem? (i := 2033) (by decide +kernel), List.mem_of_getElem? (i := 3462) (by decide +kernel), List.mem_of_getElem? (i := 3463) (by decide +kernel)⟩
theorem lw_p252 : lw_okq (⟨"StaveHouseModel", "between", "(LStaveHouseModel$Piece;)V"⟩, 107) := ⟨⟨by decide +kernel, by decide +kernel⟩, List.mem_of_getElem? (i := 2033) (by decide +kernel), List.mem_of_getElem? (i := 3469) (by decide +kernel), List.mem_of_getElem? (i := 3470) (by decide +kernel)⟩
theorem lw_p253 : lw_okq (⟨"StaveHouseModel", "keyHeard", "(LStaveHouseModel$Piece;)I"⟩, 107) := ⟨⟨by decide +kernel, by decide +kernel⟩, List.mem_of_getElem? (i := 2033) (by decide +kernel), List.mem_of_getElem? (i := 3507) (by decide +kernel), List.mem_of_getElem? (i := 3508) (by decide +kernel)⟩
def lw_privs_16 : List (MethodName × Nat) := [(⟨"StaveHouseModel", "staves", "(LStaveHouseModel$Piece;)V"⟩, 107), (⟨"StaveHouseModel", "holds", "(LStaveHouseModel$Piece;I)V"⟩, 107), (⟨"StaveHouseModel", "accidentals", "(LStaveHouseModel$Piece;I)V"⟩, 107), (⟨"StaveHouseModel", "comesOn", "(LStaveHouseModel$Piece;IIII)Z"⟩, 107), (⟨"StaveHouseModel", "ledgers", "(LStaveHouseModel$Piece;II)I"⟩, 107), (⟨"StaveHouseModel", "groups", "(LStaveHouseModel$Piece;I)V"⟩, 107), (⟨"StaveHouseModel", "isTogether", "(LStaveHouseModel$Piece;III)Z"⟩, 107), (⟨"StaveHouseModel", "isBeamed", "(LStaveHouseModel$Piece;II)Z"⟩, 107), (⟨"StaveHouseModel", "columns", "(LStaveHouseModel$Piece;)V"⟩, 107), (⟨"StaveHouseModel", "column", "(LStaveHouseModel$Piece;IIJJ)I"⟩, 107), (⟨"StaveHouseModel", "wide", "(LStaveHouseModel$Piece;II)I"⟩, 107), (⟨"StaveHouseModel", "moments", "(LStaveHouseModel$Piece;)V"⟩, 107), (⟨"StaveHouseModel", "between", "(LStaveHouseModel$Piece;)V"⟩, 107), (⟨"StaveHouseModel", "keyHeard", "(LStaveHouseModel$Piece;)I"⟩, 107)]
theorem lw_r16 : ∀ q ∈ lw_privs_16, lw_okq q := List.forall_mem_cons.mpr ⟨lw_p240, List.forall_mem_cons.mpr ⟨lw_p241, List.forall_mem_cons.mpr ⟨lw_p242, List.forall_mem_cons.mpr ⟨lw_p243, List.forall_mem_cons.mpr ⟨lw_p244, List.forall_mem_cons.mpr ⟨lw_p245, List.forall_mem_cons.mpr ⟨lw_p246, List.forall_mem_cons.mpr ⟨lw_p247, List.forall_mem_cons.mpr ⟨lw_p248, List.forall_mem_cons.mpr ⟨lw_p249, List.forall_mem_cons.mpr ⟨lw_p250, List.forall_mem_cons.mpr ⟨lw_p251, List.forall_mem_cons.mpr ⟨lw_p252, List.forall_mem_cons.mpr ⟨lw_p253, fun _ h => absurd h List.not_mem_nil⟩⟩⟩⟩⟩⟩⟩⟩⟩⟩⟩⟩⟩⟩
def lw_privs : List (MethodName × Nat) := lw_privs_1 ++ (lw_privs_2 ++ (lw_privs_3 ++ (lw_privs_4 ++ (lw_privs_5 ++ (lw_privs_6 ++ (lw_privs_7 ++ (lw_privs_8 ++ (lw_privs_9 ++ (lw_privs_10 ++ (lw_privs_11 ++ (lw_privs_12 ++ (lw_privs_13 ++ (lw_privs_14 ++ (lw_privs_15 ++ (lw_privs_16)))))))))))))))
def lw_tbl : List Cond := k2_sels lw_privs ++ tables_1
theorem lw_privs_ok : ∀ q ∈ lw_privs, lw_okq q := by
  show ∀ q ∈ lw_privs_1 ++ (lw_privs_2 ++ (lw_privs_3 ++ (lw_privs_4 ++ (lw_privs_5 ++ (lw_privs_6 ++ (lw_privs_7 ++ (lw_privs_8 ++ (lw_privs_9 ++ (lw_privs_10 ++ (lw_privs_11 ++ (lw_privs_12 ++ (lw_privs_13 ++ (lw_privs_14 ++ (lw_privs_15 ++ (lw_privs_16))))))))))))))), lw_okq q
  exact List.forall_mem_append.mpr ⟨lw_r1, List.forall_mem_append.mpr ⟨lw_r2, List.forall_mem_append.mpr ⟨lw_r3, List.forall_mem_append.mpr ⟨lw_r4, List.forall_mem_append.mpr ⟨lw_r5, List.forall_mem_append.mpr ⟨lw_r6, List.forall_mem_append.mpr ⟨lw_r7, List.forall_mem_append.mpr ⟨lw_r8, List.forall_mem_append.mpr ⟨lw_r9, List.forall_mem_append.mpr ⟨lw_r10, List.forall_mem_append.mpr ⟨lw_r11, List.forall_mem_append.mpr ⟨lw_r12, List.forall_mem_append.mpr ⟨lw_r13, List.forall_mem_append.mpr ⟨lw_r14, List.forall_mem_append.mpr ⟨lw_r15, lw_r16⟩⟩⟩⟩⟩⟩⟩⟩⟩⟩⟩⟩⟩⟩⟩
end
section
def RX0 : String := "StaveHouse$ByteRow"
def TX0 : u_T := fun k => match k with
  | 0 => ("StaveHouse$ByteRow", "bytes", "[I", true)
  | 1 => ("StaveHouse$ByteRow", "size", "I", false)
  | _ => ("StaveHouse$ByteRow", "full", "Z", false)
def tyX0 : Nat → FieldType := fun k => match k with
  | 0 => .array .int
  | 1 => .int
  | _ => .boolean
theorem nmX0 : ∀ a, a < 3 → ∀ b, b < 3 → a ≠ b → (TX0 a).2.1 ≠ (TX0 b).2.1 := by decide +kernel
theorem tyX0_ok : ∀ k, k < 3 → parseFieldDescriptor (TX0 k).2.2.1 = some (tyX0 k) := by decide +kernel
def RX1 : String := "StaveHouse$Event"
def TX1 : u_T := fun k => match k with
  | 0 => ("StaveHouse$Event", "place", "J", false)
  | 1 => ("StaveHouse$Event", "length", "J", false)
  | 2 => ("StaveHouse$Event", "value", "I", false)
  | 3 => ("StaveHouse$Event", "tupletFirst", "I", false)
  | 4 => ("StaveHouse$Event", "tupletSecond", "I", false)
  | 5 => ("StaveHouse$Event", "bracket", "I", false)
  | 6 => ("StaveHouse$Event", "bracketPlace", "I", false)
  | 7 => ("StaveHouse$Event", "marks", "I", false)
  | 8 => ("StaveHouse$Event", "loud", "I", false)
  | 9 => ("StaveHouse$Event", "token", "I", false)
  | 10 => ("StaveHouse$Event", "count", "I", false)
  | 11 => ("StaveHouse$Event", "slurred", "Z", false)
  | 12 => ("StaveHouse$Event", "steps", "[I", true)
  | _ => ("StaveHouse$Event", "alterations", "[I", true)
def tyX1 : Nat → FieldType := fun k => match k with
  | 0 => .long
  | 1 => .long
  | 2 => .int
  | 3 => .int
  | 4 => .int
  | 5 => .int
  | 6 => .int
  | 7 => .int
  | 8 => .int
  | 9 => .int
  | 10 => .int
  | 11 => .boolean
  | 12 => .array .int
  | _ => .array .int
theorem nmX1 : ∀ a, a < 14 → ∀ b, b < 14 → a ≠ b → (TX1 a).2.1 ≠ (TX1 b).2.1 := by decide +kernel
theorem tyX1_ok : ∀ k, k < 14 → parseFieldDescriptor (TX1 k).2.2.1 = some (tyX1 k) := by decide +kernel
def RX2 : String := "StaveHouse$Layout"
def TX2 : u_T := fun k => match k with
  | 0 => ("StaveHouse$Layout", "lineCount", "I", false)
  | 1 => ("StaveHouse$Layout", "columnPlaces", "[J", true)
  | 2 => ("StaveHouse$Layout", "columnWidths", "[I", true)
  | 3 => ("StaveHouse$Layout", "columnXs", "[I", true)
  | 4 => ("StaveHouse$Layout", "columns", "I", false)
  | 5 => ("StaveHouse$Layout", "barFirsts", "[I", true)
  | 6 => ("StaveHouse$Layout", "barWidths", "[I", true)
  | 7 => ("StaveHouse$Layout", "lineFirsts", "[I", true)
  | 8 => ("StaveHouse$Layout", "lineWidths", "[I", true)
  | 9 => ("StaveHouse$Layout", "linePrices", "[J", true)
  | 10 => ("StaveHouse$Layout", "best", "[J", true)
  | 11 => ("StaveHouse$Layout", "breaks", "[I", true)
  | _ => ("StaveHouse$Layout", "nexts", "[I", true)
def tyX2 : Nat → FieldType := fun k => match k with
  | 0 => .int
  | 1 => .array .long
  | 2 => .array .int
  | 3 => .array .int
  | 4 => .int
  | 5 => .array .int
  | 6 => .array .int
  | 7 => .array .int
  | 8 => .array .int
  | 9 => .array .long
  | 10 => .array .long
  | 11 => .array .int
  | _ => .array .int
theorem nmX2 : ∀ a, a < 13 → ∀ b, b < 13 → a ≠ b → (TX2 a).2.1 ≠ (TX2 b).2.1 := by decide +kernel
theorem tyX2_ok : ∀ k, k < 13 → parseFieldDescriptor (TX2 k).2.2.1 = some (tyX2 k) := by decide +kernel
def RX3 : String := "StaveHouse$Parser"
def TX3 : u_T := fun k => match k with
  | 0 => ("StaveHouse$Parser", "kind", "[I", true)
  | 1 => ("StaveHouse$Parser", "place", "[I", true)
  | 2 => ("StaveHouse$Parser", "first", "[I", true)
  | 3 => ("StaveHouse$Parser", "second", "[I", true)
  | 4 => ("StaveHouse$Parser", "child", "[I", true)
  | 5 => ("StaveHouse$Parser", "next", "[I", true)
  | 6 => ("StaveHouse$Parser", "count", "[I", true)
  | 7 => ("StaveHouse$Parser", "marks", "[I", true)
  | 8 => ("StaveHouse$Parser", "pitchSteps", "[I", true)
  | 9 => ("StaveHouse$Parser", "pitchAlterations", "[I", true)
  | 10 => ("StaveHouse$Parser", "pitchPlaces", "[I", true)
  | 11 => ("StaveHouse$Parser", "token", "LStaveHouse$Tokens;", true)
  | 12 => ("StaveHouse$Parser", "letNames", "[J", true)
  | 13 => ("StaveHouse$Parser", "letItems", "[I", true)
  | 14 => ("StaveHouse$Parser", "items", "I", false)
  | 15 => ("StaveHouse$Parser", "pitches", "I", false)
  | 16 => ("StaveHouse$Parser", "lets", "I", false)
  | 17 => ("StaveHouse$Parser", "headsTold", "I", false)
  | 18 => ("StaveHouse$Parser", "depth", "I", false)
  | 19 => ("StaveHouse$Parser", "number", "I", false)
  | 20 => ("StaveHouse$Parser", "length", "I", false)
  | _ => ("StaveHouse$Parser", "wrong", "I", false)
def tyX3 : Nat → FieldType := fun k => match k with
  | 0 => .array .int
  | 1 => .array .int
  | 2 => .array .int
  | 3 => .array .int
  | 4 => .array .int
  | 5 => .array .int
  | 6 => .array .int
  | 7 => .array .int
  | 8 => .array .int
  | 9 => .array .int
  | 10 => .array .int
  | 11 => .object "StaveHouse$Tokens"
  | 12 => .array .long
  | 13 => .array .int
  | 14 => .int
  | 15 => .int
  | 16 => .int
  | 17 => .int
  | 18 => .int
  | 19 => .int
  | 20 => .int
  | _ => .int
theorem nmX3 : ∀ a, a < 22 → ∀ b, b < 22 → a ≠ b → (TX3 a).2.1 ≠ (TX3 b).2.1 := by decide +kernel
theorem tyX3_ok : ∀ k, k < 22 → parseFieldDescriptor (TX3 k).2.2.1 = some (tyX3 k) := by decide +kernel
def RX4 : String := "StaveHouse$Part"
def TX4 : u_T := fun k => match k with
  | 0 => ("StaveHouse$Part", "word", "J", false)
  | 1 => ("StaveHouse$Part", "clef", "I", false)
  | 2 => ("StaveHouse$Part", "number", "I", false)
  | 3 => ("StaveHouse$Part", "token", "I", false)
  | 4 => ("StaveHouse$Part", "root", "I", false)
  | 5 => ("StaveHouse$Part", "events", "[LStaveHouse$Event;", true)
  | 6 => ("StaveHouse$Part", "eventCount", "I", false)
  | 7 => ("StaveHouse$Part", "endPlace", "J", false)
  | 8 => ("StaveHouse$Part", "notes", "[[I", true)
  | 9 => ("StaveHouse$Part", "notePlaces", "[J", true)
  | 10 => ("StaveHouse$Part", "noteCount", "I", false)
  | 11 => ("StaveHouse$Part", "tooManyNotes", "Z", false)
  | _ => ("StaveHouse$Part", "known", "[I", true)
def tyX4 : Nat → FieldType := fun k => match k with
  | 0 => .long
  | 1 => .int
  | 2 => .int
  | 3 => .int
  | 4 => .int
  | 5 => .array (.object "StaveHouse$Event")
  | 6 => .int
  | 7 => .long
  | 8 => .array (.array .int)
  | 9 => .array .long
  | 10 => .int
  | 11 => .boolean
  | _ => .array .int
theorem nmX4 : ∀ a, a < 13 → ∀ b, b < 13 → a ≠ b → (TX4 a).2.1 ≠ (TX4 b).2.1 := by decide +kernel
theorem tyX4_ok : ∀ k, k < 13 → parseFieldDescriptor (TX4 k).2.2.1 = some (tyX4 k) := by decide +kernel
def RX5 : String := "StaveHouse$Performance"
def TX5 : u_T := fun k => match k with
  | 0 => ("StaveHouse$Performance", "count", "I", false)
  | 1 => ("StaveHouse$Performance", "tooMany", "Z", false)
  | 2 => ("StaveHouse$Performance", "made", "I", false)
  | 3 => ("StaveHouse$Performance", "latest", "I", false)
  | 4 => ("StaveHouse$Performance", "heardRow", "[I", true)
  | 5 => ("StaveHouse$Performance", "codeRow", "[I", true)
  | 6 => ("StaveHouse$Performance", "mix", "[I", true)
  | 7 => ("StaveHouse$Performance", "sounds", "[[I", true)
  | 8 => ("StaveHouse$Performance", "strokes", "[J", false)
  | 9 => ("StaveHouse$Performance", "otherStrokes", "[J", false)
  | 10 => ("StaveHouse$Performance", "keyTicks", "[J", true)
  | 11 => ("StaveHouse$Performance", "heard", "I", false)
  | 12 => ("StaveHouse$Performance", "predicted", "I", false)
  | _ => ("StaveHouse$Performance", "index", "I", false)
def tyX5 : Nat → FieldType := fun k => match k with
  | 0 => .int
  | 1 => .boolean
  | 2 => .int
  | 3 => .int
  | 4 => .array .int
  | 5 => .array .int
  | 6 => .array .int
  | 7 => .array (.array .int)
  | 8 => .array .long
  | 9 => .array .long
  | 10 => .array .long
  | 11 => .int
  | 12 => .int
  | _ => .int
theorem nmX5 : ∀ a, a < 14 → ∀ b, b < 14 → a ≠ b → (TX5 a).2.1 ≠ (TX5 b).2.1 := by decide +kernel
theorem tyX5_ok : ∀ k, k < 14 → parseFieldDescriptor (TX5 k).2.2.1 = some (tyX5 k) := by decide +kernel
def RX6 : String := "StaveHouse$Piece"
def TX6 : u_T := fun k => match k with
  | 0 => ("StaveHouse$Piece", "parts", "[LStaveHouse$Part;", true)
  | 1 => ("StaveHouse$Piece", "partCount", "I", false)
  | 2 => ("StaveHouse$Piece", "fifths", "I", false)
  | 3 => ("StaveHouse$Piece", "minor", "I", false)
  | 4 => ("StaveHouse$Piece", "above", "I", false)
  | 5 => ("StaveHouse$Piece", "below", "I", false)
  | 6 => ("StaveHouse$Piece", "tempo", "I", false)
  | 7 => ("StaveHouse$Piece", "bars", "I", false)
  | 8 => ("StaveHouse$Piece", "layout", "LStaveHouse$Layout;", false)
  | 9 => ("StaveHouse$Piece", "performance", "LStaveHouse$Performance;", false)
  | 10 => ("StaveHouse$Piece", "performed", "Z", false)
  | 11 => ("StaveHouse$Piece", "sounded", "Z", false)
  | 12 => ("StaveHouse$Piece", "study", "LStaveHouse$Study;", false)
  | _ => ("StaveHouse$Piece", "studied", "Z", false)
def tyX6 : Nat → FieldType := fun k => match k with
  | 0 => .array (.object "StaveHouse$Part")
  | 1 => .int
  | 2 => .int
  | 3 => .int
  | 4 => .int
  | 5 => .int
  | 6 => .int
  | 7 => .int
  | 8 => .object "StaveHouse$Layout"
  | 9 => .object "StaveHouse$Performance"
  | 10 => .boolean
  | 11 => .boolean
  | 12 => .object "StaveHouse$Study"
  | _ => .boolean
theorem nmX6 : ∀ a, a < 14 → ∀ b, b < 14 → a ≠ b → (TX6 a).2.1 ≠ (TX6 b).2.1 := by decide +kernel
theorem tyX6_ok : ∀ k, k < 14 → parseFieldDescriptor (TX6 k).2.2.1 = some (tyX6 k) := by decide +kernel
def RX7 : String := "StaveHouse$Scribe"
def TX7 : u_T := fun k => match k with
  | 0 => ("StaveHouse$Scribe", "source", "LStaveHouse$SoundFile;", false)
  | 1 => ("StaveHouse$Scribe", "page", "LStaveHouse$ByteRow;", false)
  | 2 => ("StaveHouse$Scribe", "grid", "I", false)
  | 3 => ("StaveHouse$Scribe", "bar", "I", false)
  | 4 => ("StaveHouse$Scribe", "event", "LStaveHouse$Event;", true)
  | 5 => ("StaveHouse$Scribe", "from", "J", false)
  | 6 => ("StaveHouse$Scribe", "to", "J", false)
  | 7 => ("StaveHouse$Scribe", "next", "I", false)
  | _ => ("StaveHouse$Scribe", "hasTone", "[Z", true)
def tyX7 : Nat → FieldType := fun k => match k with
  | 0 => .object "StaveHouse$SoundFile"
  | 1 => .object "StaveHouse$ByteRow"
  | 2 => .int
  | 3 => .int
  | 4 => .object "StaveHouse$Event"
  | 5 => .long
  | 6 => .long
  | 7 => .int
  | _ => .array .boolean
theorem nmX7 : ∀ a, a < 9 → ∀ b, b < 9 → a ≠ b → (TX7 a).2.1 ≠ (TX7 b).2.1 := by decide +kernel
theorem tyX7_ok : ∀ k, k < 9 → parseFieldDescriptor (TX7 k).2.2.1 = some (tyX7 k) := by decide +kernel
def RX8 : String := "StaveHouse$SoundFile"
def TX8 : u_T := fun k => match k with
  | 0 => ("StaveHouse$SoundFile", "head", "[I", true)
  | 1 => ("StaveHouse$SoundFile", "sounds", "[[J", true)
  | 2 => ("StaveHouse$SoundFile", "count", "I", false)
  | 3 => ("StaveHouse$SoundFile", "numbers", "[I", true)
  | 4 => ("StaveHouse$SoundFile", "row", "LStaveHouse$ByteRow;", false)
  | 5 => ("StaveHouse$SoundFile", "at", "I", false)
  | 6 => ("StaveHouse$SoundFile", "limit", "I", false)
  | 7 => ("StaveHouse$SoundFile", "wrong", "I", false)
  | 8 => ("StaveHouse$SoundFile", "track", "I", false)
  | 9 => ("StaveHouse$SoundFile", "status", "I", false)
  | 10 => ("StaveHouse$SoundFile", "tick", "J", false)
  | 11 => ("StaveHouse$SoundFile", "trackDone", "Z", false)
  | 12 => ("StaveHouse$SoundFile", "keyTold", "Z", false)
  | 13 => ("StaveHouse$SoundFile", "timeTold", "Z", false)
  | _ => ("StaveHouse$SoundFile", "tempoTold", "Z", false)
def tyX8 : Nat → FieldType := fun k => match k with
  | 0 => .array .int
  | 1 => .array (.array .long)
  | 2 => .int
  | 3 => .array .int
  | 4 => .object "StaveHouse$ByteRow"
  | 5 => .int
  | 6 => .int
  | 7 => .int
  | 8 => .int
  | 9 => .int
  | 10 => .long
  | 11 => .boolean
  | 12 => .boolean
  | 13 => .boolean
  | _ => .boolean
theorem nmX8 : ∀ a, a < 15 → ∀ b, b < 15 → a ≠ b → (TX8 a).2.1 ≠ (TX8 b).2.1 := by decide +kernel
theorem tyX8_ok : ∀ k, k < 15 → parseFieldDescriptor (TX8 k).2.2.1 = some (tyX8 k) := by decide +kernel
def RX9 : String := "StaveHouse$Study"
def TX9 : u_T := fun k => match k with
  | 0 => ("StaveHouse$Study", "moments", "I", false)
  | 1 => ("StaveHouse$Study", "places", "[J", true)
  | 2 => ("StaveHouse$Study", "faults", "I", false)
  | 3 => ("StaveHouse$Study", "faultRows", "[[I", true)
  | 4 => ("StaveHouse$Study", "eventsAt", "[[I", true)
  | 5 => ("StaveHouse$Study", "steps", "[I", true)
  | 6 => ("StaveHouse$Study", "tones", "[I", true)
  | 7 => ("StaveHouse$Study", "oldSteps", "[I", true)
  | 8 => ("StaveHouse$Study", "oldTones", "[I", true)
  | 9 => ("StaveHouse$Study", "begins", "[Z", true)
  | _ => ("StaveHouse$Study", "letters", "[I", true)
def tyX9 : Nat → FieldType := fun k => match k with
  | 0 => .int
  | 1 => .array .long
  | 2 => .int
  | 3 => .array (.array .int)
  | 4 => .array (.array .int)
  | 5 => .array .int
  | 6 => .array .int
  | 7 => .array .int
  | 8 => .array .int
  | 9 => .array .boolean
  | _ => .array .int
theorem nmX9 : ∀ a, a < 11 → ∀ b, b < 11 → a ≠ b → (TX9 a).2.1 ≠ (TX9 b).2.1 := by decide +kernel
theorem tyX9_ok : ∀ k, k < 11 → parseFieldDescriptor (TX9 k).2.2.1 = some (tyX9 k) := by decide +kernel
def RX10 : String := "StaveHouse$Tokens"
def TX10 : u_T := fun k => match k with
  | 0 => ("StaveHouse$Tokens", "kind", "I", false)
  | 1 => ("StaveHouse$Tokens", "place", "I", false)
  | 2 => ("StaveHouse$Tokens", "value", "J", false)
  | 3 => ("StaveHouse$Tokens", "step", "I", false)
  | 4 => ("StaveHouse$Tokens", "alteration", "I", false)
  | 5 => ("StaveHouse$Tokens", "kinds", "[I", true)
  | 6 => ("StaveHouse$Tokens", "places", "[I", true)
  | 7 => ("StaveHouse$Tokens", "values", "[J", true)
  | _ => ("StaveHouse$Tokens", "next", "I", false)
def tyX10 : Nat → FieldType := fun k => match k with
  | 0 => .int
  | 1 => .int
  | 2 => .long
  | 3 => .int
  | 4 => .int
  | 5 => .array .int
  | 6 => .array .int
  | 7 => .array .long
  | _ => .int
theorem nmX10 : ∀ a, a < 9 → ∀ b, b < 9 → a ≠ b → (TX10 a).2.1 ≠ (TX10 b).2.1 := by decide +kernel
theorem tyX10_ok : ∀ k, k < 9 → parseFieldDescriptor (TX10 k).2.2.1 = some (tyX10 k) := by decide +kernel
def RX11 : String := "StaveHouse$Walker"
def TX11 : u_T := fun k => match k with
  | 0 => ("StaveHouse$Walker", "tree", "LStaveHouse$Parser;", false)
  | 1 => ("StaveHouse$Walker", "part", "LStaveHouse$Part;", false)
  | 2 => ("StaveHouse$Walker", "wrong", "I", false)
  | 3 => ("StaveHouse$Walker", "gone", "I", false)
  | 4 => ("StaveHouse$Walker", "loud", "I", false)
  | 5 => ("StaveHouse$Walker", "backs", "I", false)
  | 6 => ("StaveHouse$Walker", "brackets", "I", false)
  | 7 => ("StaveHouse$Walker", "bracket", "I", false)
  | 8 => ("StaveHouse$Walker", "bracketPlace", "I", false)
  | 9 => ("StaveHouse$Walker", "tupletFirst", "I", false)
  | 10 => ("StaveHouse$Walker", "tupletSecond", "I", false)
  | 11 => ("StaveHouse$Walker", "come", "J", false)
  | 12 => ("StaveHouse$Walker", "farthest", "J", false)
  | 13 => ("StaveHouse$Walker", "bar", "J", false)
  | 14 => ("StaveHouse$Walker", "powers", "[I", true)
  | 15 => ("StaveHouse$Walker", "carrySigns", "[I", true)
  | 16 => ("StaveHouse$Walker", "carrySteps", "[I", true)
  | 17 => ("StaveHouse$Walker", "carryTones", "[I", true)
  | _ => ("StaveHouse$Walker", "carries", "I", false)
def tyX11 : Nat → FieldType := fun k => match k with
  | 0 => .object "StaveHouse$Parser"
  | 1 => .object "StaveHouse$Part"
  | 2 => .int
  | 3 => .int
  | 4 => .int
  | 5 => .int
  | 6 => .int
  | 7 => .int
  | 8 => .int
  | 9 => .int
  | 10 => .int
  | 11 => .long
  | 12 => .long
  | 13 => .long
  | 14 => .array .int
  | 15 => .array .int
  | 16 => .array .int
  | 17 => .array .int
  | _ => .int
theorem nmX11 : ∀ a, a < 19 → ∀ b, b < 19 → a ≠ b → (TX11 a).2.1 ≠ (TX11 b).2.1 := by decide +kernel
theorem tyX11_ok : ∀ k, k < 19 → parseFieldDescriptor (TX11 k).2.2.1 = some (tyX11 k) := by decide +kernel
def RX12 : String := "StaveHouse"
def TX12 : u_T := fun k => match k with
  | 0 => ("StaveHouse", "tape", "LStaveHouse$ByteRow;", true)
  | 1 => ("StaveHouse", "waiting", "[I", true)
  | 2 => ("StaveHouse", "written", "LStaveHouse$ByteRow;", true)
  | 3 => ("StaveHouse", "pieces", "[LStaveHouse$Piece;", true)
  | 4 => ("StaveHouse", "parser", "LStaveHouse$Parser;", true)
  | 5 => ("StaveHouse", "walker", "LStaveHouse$Walker;", true)
  | 6 => ("StaveHouse", "scribe", "LStaveHouse$Scribe;", true)
  | 7 => ("StaveHouse", "spare", "LStaveHouse$Piece;", false)
  | 8 => ("StaveHouse", "opened", "LStaveHouse$SoundFile;", false)
  | _ => ("StaveHouse", "spareFile", "LStaveHouse$SoundFile;", false)
def tyX12 : Nat → FieldType := fun k => match k with
  | 0 => .object "StaveHouse$ByteRow"
  | 1 => .array .int
  | 2 => .object "StaveHouse$ByteRow"
  | 3 => .array (.object "StaveHouse$Piece")
  | 4 => .object "StaveHouse$Parser"
  | 5 => .object "StaveHouse$Walker"
  | 6 => .object "StaveHouse$Scribe"
  | 7 => .object "StaveHouse$Piece"
  | 8 => .object "StaveHouse$SoundFile"
  | _ => .object "StaveHouse$SoundFile"
theorem nmX12 : ∀ a, a < 10 → ∀ b, b < 10 → a ≠ b → (TX12 a).2.1 ≠ (TX12 b).2.1 := by decide +kernel
theorem tyX12_ok : ∀ k, k < 10 → parseFieldDescriptor (TX12 k).2.2.1 = some (tyX12 k) := by decide +kernel
def RX13 : String := "StaveHouseModel$Piece"
def TX13 : u_T := fun k => match k with
  | 0 => ("StaveHouseModel$Piece", "there", "Z", false)
  | 1 => ("StaveHouseModel$Piece", "voices", "I", false)
  | 2 => ("StaveHouseModel$Piece", "fifths", "I", false)
  | 3 => ("StaveHouseModel$Piece", "minor", "Z", false)
  | 4 => ("StaveHouseModel$Piece", "n", "I", false)
  | 5 => ("StaveHouseModel$Piece", "d", "I", false)
  | 6 => ("StaveHouseModel$Piece", "tempo", "I", false)
  | 7 => ("StaveHouseModel$Piece", "bars", "I", false)
  | 8 => ("StaveHouseModel$Piece", "clef", "[I", true)
  | 9 => ("StaveHouseModel$Piece", "number", "[I", true)
  | 10 => ("StaveHouseModel$Piece", "name", "[J", true)
  | 11 => ("StaveHouseModel$Piece", "letters", "[I", true)
  | 12 => ("StaveHouseModel$Piece", "events", "[I", true)
  | 13 => ("StaveHouseModel$Piece", "notes", "[I", true)
  | 14 => ("StaveHouseModel$Piece", "up", "[J", true)
  | 15 => ("StaveHouseModel$Piece", "down", "[J", true)
  | 16 => ("StaveHouseModel$Piece", "lengthUp", "[J", true)
  | 17 => ("StaveHouseModel$Piece", "lengthDown", "[J", true)
  | 18 => ("StaveHouseModel$Piece", "marks", "[I", true)
  | 19 => ("StaveHouseModel$Piece", "loud", "[I", true)
  | 20 => ("StaveHouseModel$Piece", "token", "[I", true)
  | 21 => ("StaveHouseModel$Piece", "many", "[I", true)
  | 22 => ("StaveHouseModel$Piece", "inside", "[I", true)
  | 23 => ("StaveHouseModel$Piece", "ratioUp", "[I", true)
  | 24 => ("StaveHouseModel$Piece", "ratioDown", "[I", true)
  | 25 => ("StaveHouseModel$Piece", "outer", "[I", true)
  | 26 => ("StaveHouseModel$Piece", "outerToken", "[I", true)
  | 27 => ("StaveHouseModel$Piece", "slur", "[Z", true)
  | 28 => ("StaveHouseModel$Piece", "step", "[I", true)
  | 29 => ("StaveHouseModel$Piece", "alt", "[I", true)
  | 30 => ("StaveHouseModel$Piece", "of", "[I", true)
  | 31 => ("StaveHouseModel$Piece", "bar", "[I", true)
  | 32 => ("StaveHouseModel$Piece", "inUp", "[J", true)
  | 33 => ("StaveHouseModel$Piece", "inDown", "[J", true)
  | 34 => ("StaveHouseModel$Piece", "form", "[I", true)
  | 35 => ("StaveHouseModel$Piece", "points", "[I", true)
  | 36 => ("StaveHouseModel$Piece", "held", "[I", true)
  | 37 => ("StaveHouseModel$Piece", "accidentals", "[I", true)
  | 38 => ("StaveHouseModel$Piece", "ledgers", "[I", true)
  | 39 => ("StaveHouseModel$Piece", "group", "[I", true)
  | 40 => ("StaveHouseModel$Piece", "beams", "[I", true)
  | 41 => ("StaveHouseModel$Piece", "stem", "[I", true)
  | 42 => ("StaveHouseModel$Piece", "firstColumn", "[I", true)
  | 43 => ("StaveHouseModel$Piece", "columnUp", "[J", true)
  | 44 => ("StaveHouseModel$Piece", "columnDown", "[J", true)
  | 45 => ("StaveHouseModel$Piece", "columnWide", "[I", true)
  | 46 => ("StaveHouseModel$Piece", "barWide", "[I", true)
  | 47 => ("StaveHouseModel$Piece", "width", "I", false)
  | 48 => ("StaveHouseModel$Piece", "lines", "I", false)
  | 49 => ("StaveHouseModel$Piece", "lineBar", "[I", true)
  | 50 => ("StaveHouseModel$Piece", "lineBars", "[I", true)
  | 51 => ("StaveHouseModel$Piece", "lineWide", "[I", true)
  | 52 => ("StaveHouseModel$Piece", "linePrice", "[J", true)
  | 53 => ("StaveHouseModel$Piece", "performed", "Z", false)
  | 54 => ("StaveHouseModel$Piece", "sounds", "I", false)
  | 55 => ("StaveHouseModel$Piece", "begins", "[I", true)
  | 56 => ("StaveHouseModel$Piece", "ends", "[I", true)
  | 57 => ("StaveHouseModel$Piece", "tone", "[I", true)
  | 58 => ("StaveHouseModel$Piece", "force", "[I", true)
  | 59 => ("StaveHouseModel$Piece", "voiceOf", "[I", true)
  | 60 => ("StaveHouseModel$Piece", "strokes", "I", false)
  | 61 => ("StaveHouseModel$Piece", "strokeTick", "[I", true)
  | 62 => ("StaveHouseModel$Piece", "strokeVoice", "[I", true)
  | 63 => ("StaveHouseModel$Piece", "strokeTone", "[I", true)
  | 64 => ("StaveHouseModel$Piece", "strokeForce", "[I", true)
  | 65 => ("StaveHouseModel$Piece", "made", "I", false)
  | 66 => ("StaveHouseModel$Piece", "latest", "I", false)
  | 67 => ("StaveHouseModel$Piece", "last", "I", false)
  | 68 => ("StaveHouseModel$Piece", "predicted", "I", false)
  | 69 => ("StaveHouseModel$Piece", "index", "I", false)
  | 70 => ("StaveHouseModel$Piece", "heard", "[I", true)
  | 71 => ("StaveHouseModel$Piece", "codes", "[I", true)
  | 72 => ("StaveHouseModel$Piece", "moments", "I", false)
  | 73 => ("StaveHouseModel$Piece", "momentUp", "[J", true)
  | 74 => ("StaveHouseModel$Piece", "momentDown", "[J", true)
  | 75 => ("StaveHouseModel$Piece", "lies", "[I", true)
  | 76 => ("StaveHouseModel$Piece", "faults", "I", false)
  | 77 => ("StaveHouseModel$Piece", "faultMoment", "[I", true)
  | 78 => ("StaveHouseModel$Piece", "faultKind", "[I", true)
  | 79 => ("StaveHouseModel$Piece", "faultFirst", "[I", true)
  | _ => ("StaveHouseModel$Piece", "faultSecond", "[I", true)
def tyX13 : Nat → FieldType := fun k => match k with
  | 0 => .boolean
  | 1 => .int
  | 2 => .int
  | 3 => .boolean
  | 4 => .int
  | 5 => .int
  | 6 => .int
  | 7 => .int
  | 8 => .array .int
  | 9 => .array .int
  | 10 => .array .long
  | 11 => .array .int
  | 12 => .array .int
  | 13 => .array .int
  | 14 => .array .long
  | 15 => .array .long
  | 16 => .array .long
  | 17 => .array .long
  | 18 => .array .int
  | 19 => .array .int
  | 20 => .array .int
  | 21 => .array .int
  | 22 => .array .int
  | 23 => .array .int
  | 24 => .array .int
  | 25 => .array .int
  | 26 => .array .int
  | 27 => .array .boolean
  | 28 => .array .int
  | 29 => .array .int
  | 30 => .array .int
  | 31 => .array .int
  | 32 => .array .long
  | 33 => .array .long
  | 34 => .array .int
  | 35 => .array .int
  | 36 => .array .int
  | 37 => .array .int
  | 38 => .array .int
  | 39 => .array .int
  | 40 => .array .int
  | 41 => .array .int
  | 42 => .array .int
  | 43 => .array .long
  | 44 => .array .long
  | 45 => .array .int
  | 46 => .array .int
  | 47 => .int
  | 48 => .int
  | 49 => .array .int
  | 50 => .array .int
  | 51 => .array .int
  | 52 => .array .long
  | 53 => .boolean
  | 54 => .int
  | 55 => .array .int
  | 56 => .array .int
  | 57 => .array .int
  | 58 => .array .int
  | 59 => .array .int
  | 60 => .int
  | 61 => .array .int
  | 62 => .array .int
  | 63 => .array .int
  | 64 => .array .int
  | 65 => .int
  | 66 => .int
  | 67 => .int
  | 68 => .int
  | 69 => .int
  | 70 => .array .int
  | 71 => .array .int
  | 72 => .int
  | 73 => .array .long
  | 74 => .array .long
  | 75 => .array .int
  | 76 => .int
  | 77 => .array .int
  | 78 => .array .int
  | 79 => .array .int
  | _ => .array .int
theorem nmX13 : ∀ a, a < 81 → ∀ b, b < 81 → a ≠ b → (TX13 a).2.1 ≠ (TX13 b).2.1 := by decide +kernel
theorem tyX13_ok : ∀ k, k < 81 → parseFieldDescriptor (TX13 k).2.2.1 = some (tyX13 k) := by decide +kernel
def RX14 : String := "StaveHouseModel"
def TX14 : u_T := fun k => match k with
  | 0 => ("StaveHouseModel", "ru", "J", false)
  | 1 => ("StaveHouseModel", "rd", "J", false)
  | 2 => ("StaveHouseModel", "tape", "[B", true)
  | 3 => ("StaveHouseModel", "size", "I", false)
  | 4 => ("StaveHouseModel", "waits", "[B", true)
  | 5 => ("StaveHouseModel", "pieces", "[LStaveHouseModel$Piece;", true)
  | 6 => ("StaveHouseModel", "work", "LStaveHouseModel$Piece;", false)
  | 7 => ("StaveHouseModel", "kind", "[I", true)
  | 8 => ("StaveHouseModel", "at", "[I", true)
  | 9 => ("StaveHouseModel", "value", "[I", true)
  | 10 => ("StaveHouseModel", "altered", "[I", true)
  | 11 => ("StaveHouseModel", "word", "[J", true)
  | 12 => ("StaveHouseModel", "tokens", "I", false)
  | 13 => ("StaveHouseModel", "clefs", "[J", true)
  | 14 => ("StaveHouseModel", "louds", "[J", true)
  | 15 => ("StaveHouseModel", "others", "[J", true)
  | 16 => ("StaveHouseModel", "t", "I", false)
  | 17 => ("StaveHouseModel", "fault", "I", false)
  | 18 => ("StaveHouseModel", "place", "I", false)
  | 19 => ("StaveHouseModel", "openMany", "I", false)
  | 20 => ("StaveHouseModel", "nearNumber", "I", false)
  | 21 => ("StaveHouseModel", "nearPoints", "I", false)
  | 22 => ("StaveHouseModel", "hadKey", "Z", false)
  | 23 => ("StaveHouseModel", "hadTime", "Z", false)
  | 24 => ("StaveHouseModel", "hadTempo", "Z", false)
  | 25 => ("StaveHouseModel", "letName", "[J", true)
  | 26 => ("StaveHouseModel", "letOpen", "[I", true)
  | 27 => ("StaveHouseModel", "lets", "I", false)
  | 28 => ("StaveHouseModel", "voiceToken", "[I", true)
  | 29 => ("StaveHouseModel", "voiceOpen", "[I", true)
  | 30 => ("StaveHouseModel", "closeOf", "[I", true)
  | 31 => ("StaveHouseModel", "behind", "[I", true)
  | 32 => ("StaveHouseModel", "lengthNumber", "[I", true)
  | 33 => ("StaveHouseModel", "lengthPoints", "[I", true)
  | 34 => ("StaveHouseModel", "marksOf", "[I", true)
  | 35 => ("StaveHouseModel", "v", "I", false)
  | 36 => ("StaveHouseModel", "made", "I", false)
  | 37 => ("StaveHouseModel", "items", "I", false)
  | 38 => ("StaveHouseModel", "comeUp", "J", false)
  | 39 => ("StaveHouseModel", "comeDown", "J", false)
  | 40 => ("StaveHouseModel", "loud", "I", false)
  | 41 => ("StaveHouseModel", "backs", "I", false)
  | 42 => ("StaveHouseModel", "mirrors", "[Z", true)
  | 43 => ("StaveHouseModel", "steps", "[I", true)
  | 44 => ("StaveHouseModel", "tones", "[I", true)
  | 45 => ("StaveHouseModel", "changes", "I", false)
  | 46 => ("StaveHouseModel", "firsts", "[I", true)
  | 47 => ("StaveHouseModel", "seconds", "[I", true)
  | 48 => ("StaveHouseModel", "brackets", "I", false)
  | 49 => ("StaveHouseModel", "outerToken", "I", false)
  | 50 => ("StaveHouseModel", "outerTimes", "I", false)
  | 51 => ("StaveHouseModel", "powers", "[I", true)
  | 52 => ("StaveHouseModel", "leftUp", "J", false)
  | 53 => ("StaveHouseModel", "leftDown", "J", false)
  | 54 => ("StaveHouseModel", "hereUp", "J", false)
  | 55 => ("StaveHouseModel", "hereDown", "J", false)
  | 56 => ("StaveHouseModel", "bestForm", "I", false)
  | 57 => ("StaveHouseModel", "bestPoints", "I", false)
  | 58 => ("StaveHouseModel", "knows", "[I", true)
  | 59 => ("StaveHouseModel", "least", "[J", true)
  | 60 => ("StaveHouseModel", "most", "[I", true)
  | 61 => ("StaveHouseModel", "forces", "[I", true)
  | 62 => ("StaveHouseModel", "sounds", "I", false)
  | 63 => ("StaveHouseModel", "begins", "[I", true)
  | 64 => ("StaveHouseModel", "ends", "[I", true)
  | 65 => ("StaveHouseModel", "tonesOf", "[I", true)
  | 66 => ("StaveHouseModel", "forcesOf", "[I", true)
  | 67 => ("StaveHouseModel", "voicesOf", "[I", true)
  | 68 => ("StaveHouseModel", "eventsOf", "[I", true)
  | 69 => ("StaveHouseModel", "order", "[I", true)
  | 70 => ("StaveHouseModel", "out", "[B", true)
  | 71 => ("StaveHouseModel", "outs", "I", false)
  | 72 => ("StaveHouseModel", "isOpen", "Z", false)
  | 73 => ("StaveHouseModel", "told", "[I", true)
  | 74 => ("StaveHouseModel", "toldNow", "[I", true)
  | 75 => ("StaveHouseModel", "soundTrack", "[I", true)
  | 76 => ("StaveHouseModel", "soundChannel", "[I", true)
  | 77 => ("StaveHouseModel", "soundTone", "[I", true)
  | 78 => ("StaveHouseModel", "soundForce", "[I", true)
  | 79 => ("StaveHouseModel", "soundBegin", "[J", true)
  | 80 => ("StaveHouseModel", "soundEnd", "[J", true)
  | 81 => ("StaveHouseModel", "trackNumber", "[I", true)
  | 82 => ("StaveHouseModel", "nowTrack", "[I", true)
  | 83 => ("StaveHouseModel", "nowChannel", "[I", true)
  | 84 => ("StaveHouseModel", "nowTone", "[I", true)
  | 85 => ("StaveHouseModel", "nowForce", "[I", true)
  | 86 => ("StaveHouseModel", "nowBegin", "[J", true)
  | 87 => ("StaveHouseModel", "nowEnd", "[J", true)
  | 88 => ("StaveHouseModel", "nowNumber", "[I", true)
  | 89 => ("StaveHouseModel", "p", "I", false)
  | 90 => ("StaveHouseModel", "limit", "J", false)
  | 91 => ("StaveHouseModel", "hasTime", "Z", false)
  | 92 => ("StaveHouseModel", "hasKey", "Z", false)
  | 93 => ("StaveHouseModel", "hasTempo", "Z", false)
  | 94 => ("StaveHouseModel", "nowSounds", "I", false)
  | 95 => ("StaveHouseModel", "sixTones", "[I", true)
  | 96 => ("StaveHouseModel", "table", "[I", true)
  | 97 => ("StaveHouseModel", "moves", "[I", true)
  | 98 => ("StaveHouseModel", "classLetter", "[I", true)
  | 99 => ("StaveHouseModel", "classAlt", "[I", true)
  | 100 => ("StaveHouseModel", "classes", "I", false)
  | 101 => ("StaveHouseModel", "bass", "I", false)
  | 102 => ("StaveHouseModel", "bassStep", "I", false)
  | 103 => ("StaveHouseModel", "bassAlt", "I", false)
  | 104 => ("StaveHouseModel", "chordKind", "I", false)
  | 105 => ("StaveHouseModel", "root", "I", false)
  | _ => ("StaveHouseModel", "weights", "[I", true)
def tyX14 : Nat → FieldType := fun k => match k with
  | 0 => .long
  | 1 => .long
  | 2 => .array .byte
  | 3 => .int
  | 4 => .array .byte
  | 5 => .array (.object "StaveHouseModel$Piece")
  | 6 => .object "StaveHouseModel$Piece"
  | 7 => .array .int
  | 8 => .array .int
  | 9 => .array .int
  | 10 => .array .int
  | 11 => .array .long
  | 12 => .int
  | 13 => .array .long
  | 14 => .array .long
  | 15 => .array .long
  | 16 => .int
  | 17 => .int
  | 18 => .int
  | 19 => .int
  | 20 => .int
  | 21 => .int
  | 22 => .boolean
  | 23 => .boolean
  | 24 => .boolean
  | 25 => .array .long
  | 26 => .array .int
  | 27 => .int
  | 28 => .array .int
  | 29 => .array .int
  | 30 => .array .int
  | 31 => .array .int
  | 32 => .array .int
  | 33 => .array .int
  | 34 => .array .int
  | 35 => .int
  | 36 => .int
  | 37 => .int
  | 38 => .long
  | 39 => .long
  | 40 => .int
  | 41 => .int
  | 42 => .array .boolean
  | 43 => .array .int
  | 44 => .array .int
  | 45 => .int
  | 46 => .array .int
  | 47 => .array .int
  | 48 => .int
  | 49 => .int
  | 50 => .int
  | 51 => .array .int
  | 52 => .long
  | 53 => .long
  | 54 => .long
  | 55 => .long
  | 56 => .int
  | 57 => .int
  | 58 => .array .int
  | 59 => .array .long
  | 60 => .array .int
  | 61 => .array .int
  | 62 => .int
  | 63 => .array .int
  | 64 => .array .int
  | 65 => .array .int
  | 66 => .array .int
  | 67 => .array .int
  | 68 => .array .int
  | 69 => .array .int
  | 70 => .array .byte
  | 71 => .int
  | 72 => .boolean
  | 73 => .array .int
  | 74 => .array .int
  | 75 => .array .int
  | 76 => .array .int
  | 77 => .array .int
  | 78 => .array .int
  | 79 => .array .long
  | 80 => .array .long
  | 81 => .array .int
  | 82 => .array .int
  | 83 => .array .int
  | 84 => .array .int
  | 85 => .array .int
  | 86 => .array .long
  | 87 => .array .long
  | 88 => .array .int
  | 89 => .int
  | 90 => .long
  | 91 => .boolean
  | 92 => .boolean
  | 93 => .boolean
  | 94 => .int
  | 95 => .array .int
  | 96 => .array .int
  | 97 => .array .int
  | 98 => .array .int
  | 99 => .array .int
  | 100 => .int
  | 101 => .int
  | 102 => .int
  | 103 => .int
  | 104 => .int
  | 105 => .int
  | _ => .array .int
theorem nmX14 : ∀ a, a < 107 → ∀ b, b < 107 → a ≠ b → (TX14 a).2.1 ≠ (TX14 b).2.1 := by decide +kernel
theorem tyX14_ok : ∀ k, k < 107 → parseFieldDescriptor (TX14 k).2.2.1 = some (tyX14 k) := by decide +kernel
abbrev cls : List vw_C := [(RX0, TX0, 3), (RX1, TX1, 14), (RX2, TX2, 13), (RX3, TX3, 22), (RX4, TX4, 13), (RX5, TX5, 14), (RX6, TX6, 14), (RX7, TX7, 9), (RX8, TX8, 15), (RX9, TX9, 11), (RX10, TX10, 9), (RX11, TX11, 19), (RX12, TX12, 10), (RX13, TX13, 81), (RX14, TX14, 107)]
abbrev tyL (ca : Nat → ClassId) : List (ClassId × FieldType) := [(ca 0, .int), (ca 1, .long), (ca 2, .byte), (ca 3, .boolean), (ca 4, .object "StaveHouse$Piece"), (ca 5, .object "StaveHouseModel$Piece")]
end
section
def nestL : List (String × Nat × MethodName × String) := [("StaveHouse", 33, ({ cls := "StaveHouse$Parser", name := "<init>", desc := "()V" } : Jvm.MethodName), "StaveHouse"), ("StaveHouse$Parser", 47, ({ cls := "StaveHouse$Tokens", name := "<init>", desc := "()V" } : Jvm.MethodName), "StaveHouse"), ("StaveHouse", 40, ({ cls := "StaveHouse$Walker", name := "<init>", desc := "()V" } : Jvm.MethodName), "StaveHouse"), ("StaveHouse", 47, ({ cls := "StaveHouse$Scribe", name := "<init>", desc := "()V" } : Jvm.MethodName), "StaveHouse"), ("StaveHouse$Scribe", 11, ({ cls := "StaveHouse$Event", name := "<init>", desc := "()V" } : Jvm.MethodName), "StaveHouse"), ("StaveHouse", 67, ({ cls := "StaveHouse$Piece", name := "<init>", desc := "()V" } : Jvm.MethodName), "StaveHouse"), ("StaveHouse$Part", 30, ({ cls := "StaveHouse$Event", name := "<init>", desc := "()V" } : Jvm.MethodName), "StaveHouse"), ("StaveHouse$Piece", 110, ({ cls := "StaveHouse$Study", name := "<init>", desc := "()V" } : Jvm.MethodName), "StaveHouse"), ("StaveHouse$Piece", 99, ({ cls := "StaveHouse$Performance", name := "<init>", desc := "()V" } : Jvm.MethodName), "StaveHouse"), ("StaveHouse", 237, ({ cls := "StaveHouse$Layout", name := "<init>", desc := "()V" } : Jvm.MethodName), "StaveHouse"), ("StaveHouse", 277, ({ cls := "StaveHouse$SoundFile", name := "<init>", desc := "()V" } : Jvm.MethodName), "StaveHouse"), ("StaveHouseModel", 39, ({ cls := "StaveHouseModel$Piece", name := "<init>", desc := "()V" } : Jvm.MethodName), "StaveHouseModel")]
def aoL : List String := ["StaveHouse$Piece", "StaveHouse$Part", "StaveHouseModel$Piece"]
def statL : List (String × String × String × Value) := [("java/lang/String", "COMPACT_STRINGS", "Z", .int 1), ("StaveHouseModel", "KEY", "J", .long 7038329), ("StaveHouseModel", "MAJOR", "J", .long 469785800562), ("StaveHouseModel", "MINOR", "J", .long 469920280434), ("StaveHouseModel", "TIME", "J", .long 1953066341), ("StaveHouseModel", "TEMPO", "J", .long 499917877359), ("StaveHouseModel", "LET", "J", .long 7103860), ("StaveHouseModel", "VOICE", "J", .long 508675318629), ("StaveHouseModel", "REPEAT", "J", .long 125780002955636), ("StaveHouseModel", "ALT", "J", .long 6384756), ("StaveHouseModel", "USE", "J", .long 7697253), ("StaveHouseModel", "MOVE", "J", .long 1836021349), ("StaveHouseModel", "MIRROR", "J", .long 120299659095922), ("StaveHouseModel", "BACK", "J", .long 1650549611), ("StaveHouseModel", "SLOW", "J", .long 1936486263), ("StaveHouseModel", "REST", "J", .long 114)]
def strL : List (String × Nat × String × Nat × List Int32) := [("StaveHouse$SoundFile", 96, "MThd", 4, [77, 84, 104, 100]), ("StaveHouseModel", 65, "treble", 6, [116, 114, 101, 98, 108, 101]), ("StaveHouseModel", 71, "bass", 4, [98, 97, 115, 115]), ("StaveHouseModel", 73, "alto", 4, [97, 108, 116, 111]), ("StaveHouseModel", 75, "tenor", 5, [116, 101, 110, 111, 114]), ("StaveHouseModel", 80, "ppp", 3, [112, 112, 112]), ("StaveHouseModel", 82, "pp", 2, [112, 112]), ("StaveHouseModel", 84, "p", 1, [112]), ("StaveHouseModel", 86, "mp", 2, [109, 112]), ("StaveHouseModel", 88, "mf", 2, [109, 102]), ("StaveHouseModel", 90, "f", 1, [102]), ("StaveHouseModel", 92, "ff", 2, [102, 102]), ("StaveHouseModel", 94, "fff", 3, [102, 102, 102]), ("StaveHouseModel", 969, "MThd", 4, [77, 84, 104, 100])]
/-! ===== the words, once for all contracts ===== -/
def wAll : List Cond := lw_tbl.filter goodWord
theorem wA_good : ∀ w ∈ wAll, goodWord w = true := fun _ h => (List.mem_filter.mp h).2
theorem wA_in : ∀ w ∈ wAll, w ∈ lw_tbl := fun _ h => (List.mem_filter.mp h).1
theorem wA_of {w : Cond} (h : w ∈ lw_tbl) (hg : goodWord w = true) : w ∈ wAll := List.mem_filter.mpr ⟨h, hg⟩
theorem wA_hts {args : Array Value} {s : State} (h : ∀ w ∈ lw_tbl, w.before args s = true) : ∀ w ∈ wAll, w.before args s = true := fun w hw => h w (wA_in w hw)
theorem gdC {y : MethodName} {b : ByteArray} {n : Nat} {r : Option FieldType} (h : Cond.code y b n r ∈ wAll) : GoodIn wAll (Cond.code y b n r :: wAll) := fun w hw =>
  (List.mem_cons.mp hw).elim (fun e => by rw [e]; exact ⟨h, good_of_word (wA_good _ h)⟩) (fun h1 => ⟨h1, good_of_word (wA_good _ h1)⟩)
theorem gdW {ws : List Cond} (h : ∀ w ∈ ws, w ∈ wAll) : GoodIn wAll ws := fun w hw => ⟨h w hw, good_of_word (wA_good _ (h w hw))⟩
theorem gdV {own C : String} {i : Nat} {y : MethodName} {b : ByteArray} {n : Nat} {r : Option FieldType} (h1 : Cond.methodLink own i y ∈ wAll) (h2 : Cond.instanceMethod y ∈ wAll) (h3 : Cond.selects C y y ∈ wAll) (h4 : Cond.initialized C ∈ wAll) (h : Cond.code y b n r ∈ wAll) : GoodIn wAll (wsV own i C y (Cond.code y b n r :: wAll)) := by
  intro w hw
  unfold wsV at hw
  rcases List.mem_append.mp hw with hw | hw
  · refine gdW (ws := [.methodLink own i y, .instanceMethod y, .selects C y y, .initialized C]) ?_ w hw
    exact List.forall_mem_cons.mpr ⟨h1, List.forall_mem_cons.mpr ⟨h2, List.forall_mem_cons.mpr ⟨h3, List.forall_mem_cons.mpr ⟨h4, fun _ h => absurd h List.not_mem_nil⟩⟩⟩⟩
  · exact gdC h w hw
theorem gdS {own : String} {i : Nat} {y : MethodName} {b : ByteArray} {n : Nat} {r : Option FieldType} (h1 : Cond.methodLink own i y ∈ wAll) (h2 : Cond.static y ∈ wAll) (h4 : Cond.initialized y.cls ∈ wAll) (h : Cond.code y b n r ∈ wAll) : GoodIn wAll (va_wsS own i y (Cond.code y b n r :: wAll)) := by
  intro w hw
  unfold va_wsS at hw
  rcases List.mem_append.mp hw with hw | hw
  · refine gdW (ws := [.methodLink own i y, .static y, .initialized y.cls]) ?_ w hw
    exact List.forall_mem_cons.mpr ⟨h1, List.forall_mem_cons.mpr ⟨h2, List.forall_mem_cons.mpr ⟨h4, fun _ h => absurd h List.not_mem_nil⟩⟩⟩
  · exact gdC h w hw
/-! ===== what is known of a row of values ===== -/
def gF {α : Type} (f : Nat → α) (L : List (Nat × α)) : Prop := ∀ q ∈ L, f q.1 = q.2
def gM {α : Type} (f f' : Nat → α) (ks : List Nat) : Prop := ∀ j, ks.contains j = false → f' j = f j
section GF
variable {α : Type} {f f' f0 : Nat → α} {L L' N : List (Nat × α)} {k : Nat} {v : α} {ks ks' : List Nat}
theorem gF_nil : gF f [] := fun _ h => absurd h List.not_mem_nil
theorem gF_cons (h : f k = v) (hL : gF f L) : gF f ((k, v) :: L) := List.forall_mem_cons.mpr ⟨h, hL⟩
theorem gF.at (h : gF f L) (i : Nat) (hi : L[i]? = some (k, v)) : f k = v := h (k, v) (List.mem_of_getElem? hi)
theorem gF.sub (h : gF f L) (is : List Nat) (hl : is.filterMap (fun i => L[i]?) = L') : gF f L' := by
  intro q hq
  rw [← hl] at hq
  obtain ⟨i, -, hi⟩ := List.mem_filterMap.mp hq
  exact h q (List.mem_of_getElem? hi)
theorem gF.put (h : gF f L) (k : Nat) (v : α) (hl : (k, v) :: L.filter (fun q => !(q.1 == k)) = L') : gF (va_up f k v) L' := by
  rw [← hl]
  refine List.forall_mem_cons.mpr ⟨va_up_self f k v, fun q hq => ?_⟩
  obtain ⟨h1, h2⟩ := List.mem_filter.mp hq
  have h3 : q.1 ≠ k := by simpa using h2
  rw [va_up_ne f v h3]
  exact h q h1
theorem gM.rf : gM f f [] := fun _ _ => rfl
theorem gM.up (f : Nat → α) (k : Nat) (v : α) : gM f (va_up f k v) [k] := fun j hj => va_up_ne f v (by simpa using hj)
theorem gM.tr (h : gM f0 f ks) (h2 : gM f f' ks') : gM f0 f' (ks' ++ ks) := fun j hj => by
  have h3 : ks'.contains j = false ∧ ks.contains j = false := by simpa using hj
  rw [h2 j h3.1, h j h3.2]
theorem gM.mono (h : gM f f' ks) (hs : ks.all (fun k => ks'.contains k) = true) : gM f f' ks' := fun j hj => h j (by
  cases hc : ks.contains j with
  | false => rfl
  | true =>
    have h1 := List.all_eq_true.mp hs j (by simpa using hc)
    rw [hj] at h1
    cases h1)
theorem gF.upd (h : gF f L) (hm : gM f f' ks) (hn : gF f' N) (hl : N ++ L.filter (fun q => !(ks.contains q.1)) = L') : gF f' L' := by
  intro q hq
  rw [← hl] at hq
  rcases List.mem_append.mp hq with hq | hq
  · exact hn q hq
  · obtain ⟨h1, h2⟩ := List.mem_filter.mp hq
    rw [hm q.1 (by simpa using h2)]
    exact h q h1
end GF
def rg (N : Nat) (f : Nat → Value) : List Value := (List.range N).map f
theorem rg_get {N k : Nat} {f : Nat → Value} {v : Value} (hk : k < N) (e : f k = v) : (rg N f)[k]? = some v := by
  unfold rg
  rw [List.getElem?_map, List.getElem?_range hk, ← e]
  rfl
theorem rg_len {N : Nat} {f : Nat → Value} : (rg N f).length = N := by simp [rg]
theorem rg_set {N k : Nat} {f : Nat → Value} {v : Value} : (rg N f).set k v = rg N (va_up f k v) := by
  unfold rg
  apply List.ext_getElem?
  intro i
  rw [List.getElem?_set, List.getElem?_map, List.getElem?_map]
  by_cases hi : i < N
  · rw [List.getElem?_range hi]
    by_cases e : k = i
    · subst e
      simp [va_up, hi]
    · have e2 : ¬ i = k := fun z => e z.symm
      simp [va_up, e, e2]
  · have hn : (List.range N)[i]? = none := List.getElem?_eq_none (by rw [List.length_range]; omega)
    rw [hn]
    by_cases e : k = i
    · subst e
      simp [hi]
    · simp [e]
theorem rg_V {N k : Nat} {f : Nat → Value} (hk : k < N) : vp_V (rg N f) k = f k := by
  unfold vp_V
  rw [List.getD_eq_getElem?_getD, rg_get hk rfl]
  rfl
theorem wA_1 {j : Nat} {w : Cond} (h : tables_1_1[j]? = some w) (hg : goodWord w = true) : w ∈ wAll := wA_of (List.mem_append_right _ (by unfold tables_1; exact List.mem_append_left _ (List.mem_of_getElem? h))) hg
theorem wA_2 {j : Nat} {w : Cond} (h : tables_1_2[j]? = some w) (hg : goodWord w = true) : w ∈ wAll := wA_of (List.mem_append_right _ (by unfold tables_1; exact List.mem_append_right _ (List.mem_append_left _ (List.mem_of_getElem? h)))) hg
theorem wA_3 {j : Nat} {w : Cond} (h : tables_1_3[j]? = some w) (hg : goodWord w = true) : w ∈ wAll := wA_of (List.mem_append_right _ (by unfold tables_1; exact List.mem_append_right _ (List.mem_append_right _ (List.mem_append_left _ (List.mem_of_getElem? h))))) hg
theorem wA_4 {j : Nat} {w : Cond} (h : tables_1_4[j]? = some w) (hg : goodWord w = true) : w ∈ wAll := wA_of (List.mem_append_right _ (by unfold tables_1; exact List.mem_append_right _ (List.mem_append_right _ (List.mem_append_right _ (List.mem_append_left _ (List.mem_of_getElem? h)))))) hg
theorem wA_5 {j : Nat} {w : Cond} (h : tables_1_5[j]? = some w) (hg : goodWord w = true) : w ∈ wAll := wA_of (List.mem_append_right _ (by unfold tables_1; exact List.mem_append_right _ (List.mem_append_right _ (List.mem_append_right _ (List.mem_append_right _ (List.mem_append_left _ (List.mem_of_getElem? h))))))) hg
theorem wA_6 {j : Nat} {w : Cond} (h : tables_1_6[j]? = some w) (hg : goodWord w = true) : w ∈ wAll := wA_of (List.mem_append_right _ (by unfold tables_1; exact List.mem_append_right _ (List.mem_append_right _ (List.mem_append_right _ (List.mem_append_right _ (List.mem_append_right _ (List.mem_append_left _ (List.mem_of_getElem? h)))))))) hg
theorem wA_7 {j : Nat} {w : Cond} (h : tables_1_7[j]? = some w) (hg : goodWord w = true) : w ∈ wAll := wA_of (List.mem_append_right _ (by unfold tables_1; exact List.mem_append_right _ (List.mem_append_right _ (List.mem_append_right _ (List.mem_append_right _ (List.mem_append_right _ (List.mem_append_right _ (List.mem_append_left _ (List.mem_of_getElem? h))))))))) hg
theorem wA_8 {j : Nat} {w : Cond} (h : tables_1_8[j]? = some w) (hg : goodWord w = true) : w ∈ wAll := wA_of (List.mem_append_right _ (by unfold tables_1; exact List.mem_append_right _ (List.mem_append_right _ (List.mem_append_right _ (List.mem_append_right _ (List.mem_append_right _ (List.mem_append_right _ (List.mem_append_right _ (List.mem_append_left _ (List.mem_of_getElem? h)))))))))) hg
theorem wA_9 {j : Nat} {w : Cond} (h : tables_1_9[j]? = some w) (hg : goodWord w = true) : w ∈ wAll := wA_of (List.mem_append_right _ (by unfold tables_1; exact List.mem_append_right _ (List.mem_append_right _ (List.mem_append_right _ (List.mem_append_right _ (List.mem_append_right _ (List.mem_append_right _ (List.mem_append_right _ (List.mem_append_right _ (List.mem_append_left _ (List.mem_of_getElem? h))))))))))) hg
theorem wA_10 {j : Nat} {w : Cond} (h : tables_1_10[j]? = some w) (hg : goodWord w = true) : w ∈ wAll := wA_of (List.mem_append_right _ (by unfold tables_1; exact List.mem_append_right _ (List.mem_append_right _ (List.mem_append_right _ (List.mem_append_right _ (List.mem_append_right _ (List.mem_append_right _ (List.mem_append_right _ (List.mem_append_right _ (List.mem_append_right _ (List.mem_append_left _ (List.mem_of_getElem? h)))))))))))) hg
theorem wA_11 {j : Nat} {w : Cond} (h : tables_1_11[j]? = some w) (hg : goodWord w = true) : w ∈ wAll := wA_of (List.mem_append_right _ (by unfold tables_1; exact List.mem_append_right _ (List.mem_append_right _ (List.mem_append_right _ (List.mem_append_right _ (List.mem_append_right _ (List.mem_append_right _ (List.mem_append_right _ (List.mem_append_right _ (List.mem_append_right _ (List.mem_append_right _ (List.mem_append_left _ (List.mem_of_getElem? h))))))))))))) hg
theorem wA_12 {j : Nat} {w : Cond} (h : tables_1_12[j]? = some w) (hg : goodWord w = true) : w ∈ wAll := wA_of (List.mem_append_right _ (by unfold tables_1; exact List.mem_append_right _ (List.mem_append_right _ (List.mem_append_right _ (List.mem_append_right _ (List.mem_append_right _ (List.mem_append_right _ (List.mem_append_right _ (List.mem_append_right _ (List.mem_append_right _ (List.mem_append_right _ (List.mem_append_right _ (List.mem_append_left _ (List.mem_of_getElem? h)))))))))))))) hg
theorem wA_13 {j : Nat} {w : Cond} (h : tables_1_13[j]? = some w) (hg : goodWord w = true) : w ∈ wAll := wA_of (List.mem_append_right _ (by unfold tables_1; exact List.mem_append_right _ (List.mem_append_right _ (List.mem_append_right _ (List.mem_append_right _ (List.mem_append_right _ (List.mem_append_right _ (List.mem_append_right _ (List.mem_append_right _ (List.mem_append_right _ (List.mem_append_right _ (List.mem_append_right _ (List.mem_append_right _ (List.mem_append_left _ (List.mem_of_getElem? h))))))))))))))) hg
theorem wA_14 {j : Nat} {w : Cond} (h : tables_1_14[j]? = some w) (hg : goodWord w = true) : w ∈ wAll := wA_of (List.mem_append_right _ (by unfold tables_1; exact List.mem_append_right _ (List.mem_append_right _ (List.mem_append_right _ (List.mem_append_right _ (List.mem_append_right _ (List.mem_append_right _ (List.mem_append_right _ (List.mem_append_right _ (List.mem_append_right _ (List.mem_append_right _ (List.mem_append_right _ (List.mem_append_right _ (List.mem_append_right _ (List.mem_append_left _ (List.mem_of_getElem? h)))))))))))))))) hg
theorem wA_15 {j : Nat} {w : Cond} (h : tables_1_15[j]? = some w) (hg : goodWord w = true) : w ∈ wAll := wA_of (List.mem_append_right _ (by unfold tables_1; exact List.mem_append_right _ (List.mem_append_right _ (List.mem_append_right _ (List.mem_append_right _ (List.mem_append_right _ (List.mem_append_right _ (List.mem_append_right _ (List.mem_append_right _ (List.mem_append_right _ (List.mem_append_right _ (List.mem_append_right _ (List.mem_append_right _ (List.mem_append_right _ (List.mem_append_right _ (List.mem_of_getElem? h)))))))))))))))) hg
theorem wA_s {j : Nat} {w : Cond} (h : (k2_sels lw_privs)[j]? = some w) (hg : goodWord w = true) : w ∈ wAll := wA_of (List.mem_append_left _ (List.mem_of_getElem? h)) hg
end
section
/-! ===== what stands beside the world: links of nest mates, array classes, statics, texts ===== -/
def gX (ad av : Nat → Nat) (A : Nat → Prop) (U : State) (H : Heap) : Prop :=
  (∀ q ∈ nestL, va_Nw (.methodLinkNest q.1 q.2.1 q.2.2.1 q.2.2.2) U) ∧ (∀ C ∈ aoL, va_AO C U) ∧ ((Cond.arrayOver (.array .long)).before #[] U = true) ∧ (∀ q ∈ statL, va_Z q.1 q.2.1 q.2.2.1 q.2.2.2 A U H) ∧
  ∀ (i : Nat) (q : String × Nat × String × Nat × List Int32), strL[i]? = some q → vk_R q.1 q.2.1 q.2.2.1 (ad i) U ∧ vk_S 1 [q.2.2.2.1] [q.2.2.2.2] (fun _ => ad i) (fun _ => av i) A U H
theorem gX.to {ad av : Nat → Nat} {A B : Nat → Prop} {s U : State} (h : gX ad av A s s.heap) (hW : s.WarmedH U.vm) (hk : ∀ a : Nat, a < s.heap.size → ¬ A a → U.heap[a]? = s.heap[a]?) (hAB : ∀ q, B q → A q) : gX ad av B U U.heap :=
  ⟨fun q hq => va_Nw.warmM hW (h.1 q hq), fun C hC => va_AO.moved hW.alike (h.2.1 C hC), over_moved hW.alike h.2.2.1, fun q hq => ((va_Z.moved hW.alike (h.2.2.2.1 q hq)).kept hk).narrow hAB,
    fun i q hq => ⟨vk_R.warm hW (h.2.2.2.2 i q hq).1, ((vk_S.moved hW.alike (h.2.2.2.2 i q hq).2).kept hk).narrow hAB⟩⟩
theorem gX.same {ad av : Nat → Nat} {A : Nat → Prop} {u U : State} (h : gX ad av A u u.heap) (hv : U.vm = u.vm) (hh : U.heap = u.heap) : gX ad av A U U.heap := by
  have hal : u.vm.Alike U.vm := by rw [hv]; exact Vm.Alike.refl _
  rw [hh]
  exact ⟨fun q hq => va_Nw.same rfl hv.symm (h.1 q hq), fun C hC => va_AO.moved hal (h.2.1 C hC), over_moved hal h.2.2.1, fun q hq => va_Z.moved hal (h.2.2.2.1 q hq),
    fun i q hq => ⟨vk_R.same hv (h.2.2.2.2 i q hq).1, vk_S.moved hal (h.2.2.2.2 i q hq).2⟩⟩
/-! ===== the shape of every contract ===== -/
def gPre (D : va_G) (ca : Nat → ClassId) (ad av : Nat → Nat) (ws : va_W) (sz : Nat) : State → Prop := fun U =>
  U.heap.size = sz ∧ va_P D cls ws U.heap ∧ va_K D cls (tyL ca) U ∧ va_D (fun _ => True) ws ∧ gX ad av (va_A ws sz) U U.heap
def gB (D : va_G) (ca : Nat → ClassId) (A : Nat → Prop) (ws : va_W) (t : State) : Prop := va_P D cls ws t.heap ∧ va_K D cls (tyL ca) t ∧ va_D A ws
theorem gMet {l : Launch} {y : MethodName} {b : ByteArray} {n : Nat} {ret : Option FieldType} {rm : Room} {D : va_G} {ca : Nat → ClassId} {ad av : Nat → Nat} {ws : va_W} {sz mc ms : Nat} {args : List Value} {Qc : (Nat → Prop) → Array Value → State → Outcome → State → Prop} {lv : List (Nat × Value)}
    (hy : plainName y.cls = true) (hn : (lg_sl args).length ≤ n) (hlv : lv_args 0 args = lv)
    (body : ∀ (A : Nat → Prop) p e s m below meth c ls, p.tables.exec = Jvm.exec → c.code = b → meth.sig.returnType = ret → c.maxLocals = n → s.vm.findClass y.cls = some m.cls → (∀ w ∈ wAll, w.before args.toArray s = true) → meth.locks = false → meth.name = y.name → lv_has ls n lv →
      va_P D cls ws s.heap → va_K D cls (tyL ca) s → va_D A ws → va_S A s.heap s.heap [] → (∀ q, s.heap.size ≤ q → A q) → gX ad av A s s.heap →
      W p l e rm s m args.toArray below meth c s.heap [] 0 0 (MQ below (Qc A) args.toArray s mc ms A) (F0 m 0 ls [])) :
    Met l y (Cond.code y b n ret :: wAll) rm (va_Pc args (gPre D ca ad av ws sz)) (Qc (va_A ws sz)) mc ms (va_A ws sz) := by
  refine Met.ofW (cc := b) (maxL := n) (ret := ret) hy rfl ?_
  intro p e s m args' below meth c s₁ B hml hv
  obtain ⟨rfl, hsz, hP, hK, hD0, hX⟩ := hv
  have hts := atoms_spec (ws := Cond.code y b n ret :: wAll) B.pre
  have hown : s.vm.findClass y.cls = some m.cls := findClass_of_methodNamed B.named
  have hnm : meth.name = y.name := (name_of_methodNamed B.named B.method).1
  subst hsz
  have hD := hD0.self (sz := s.heap.size)
  have hA : ∀ q : Nat, s.heap.size ≤ q → va_A ws s.heap.size q := fun q h => Or.inr h
  have hl := lv_entry args (n := n) hn
  rw [hlv] at hl
  rw [lg_entry_eq]
  exact body (va_A ws s.heap.size) p e s m below meth c _ B.exec B.bytes B.returns hml hown (fun w hw => hts w (List.mem_cons_of_mem _ hw)) B.notSynchronized hnm hl hP hK hD va_S.rf hA hX
theorem gBlind {D : va_G} {ca : Nat → ClassId} {ad av : Nat → Nat} {ws : va_W} {sz : Nat} {As : List Value} : FrameBlind (va_Pc As (gPre D ca ad av ws sz)) := fun a U g mk q => by
  obtain ⟨q0, q1, qP, qK, qD, qX⟩ := q
  exact ⟨q0, q1, qP, va_K.moved (u := U) (U := U.calling g mk a) (Vm.Alike.refl U.vm) qK, qD, qX.same (U := U.calling g mk a) rfl rfl⟩
theorem gAt {D : va_G} {ca : Nat → ClassId} {ad av : Nat → Nat} {ws wc : va_W} {A : Nat → Prop} {s : State} {H : Heap} {locs : List Loc} (hP : va_P D cls ws H) (hD : va_D A ws) (hK : va_K D cls (tyL ca) s) (hS : va_S A s.heap H locs) (hA : ∀ q, s.heap.size ≤ q → A q) (hX : gX ad av A s s.heap) (isC : List Nat) (hn : va_nd isC = true) (hC : isC.map (fun i => ws[i]?) = wc.map some) (As : List Value) :
    ∀ U : State, U.heap = H → s.WarmedH U.vm → va_Pc As (gPre D ca ad av wc H.size) As.toArray U := by
  intro U hU hW
  have hP2 : va_P D cls wc H := by
    intro k q hq
    have h1 : (isC.map (fun i => ws[i]?))[k]? = some (some q) := by rw [hC, List.getElem?_map, hq]; rfl
    rw [List.getElem?_map] at h1
    cases hi : isC[k]? with
    | none => rw [hi] at h1; cases h1
    | some i => rw [hi] at h1; exact hP i q (Option.some.inj h1)
  refine ⟨rfl, by rw [hU], by rw [hU]; exact hP2, va_K.moved hW.alike hK, (hD.sub isC hn hC).weaken (fun _ _ _ _ => trivial), ?_⟩
  exact hX.to hW (fun a h1 h2 => by rw [hU]; exact hS.2.1 a h1 h2) (va_free hD hS hA isC hC)
theorem gPS {D : va_G} {ca : Nat → ClassId} {ad av : Nat → Nat} {ws wc : va_W} {A : Nat → Prop} {s : State} {H : Heap} {locs : List Loc} (hP : va_P D cls ws H) (hD : va_D A ws) (hK : va_K D cls (tyL ca) s) (hS : va_S A s.heap H locs) (hA : ∀ q, s.heap.size ≤ q → A q) (hX : gX ad av A s s.heap) (isC : List Nat) (hn : va_nd isC = true) (hC : isC.map (fun i => ws[i]?) = wc.map some) (As : List Value) :
    PreS s H (va_Pc As (gPre D ca ad av wc H.size)) As := ⟨gBlind, gAt hP hD hK hS hA hX isC hn hC As⟩
theorem gPV {D : va_G} {ca : Nat → ClassId} {ad av : Nat → Nat} {ws wc : va_W} {A : Nat → Prop} {s : State} {H : Heap} {locs : List Loc} (hP : va_P D cls ws H) (hD : va_D A ws) (hK : va_K D cls (tyL ca) s) (hS : va_S A s.heap H locs) (hA : ∀ q, s.heap.size ≤ q → A q) (hX : gX ad av A s s.heap) (isC : List Nat) (hn : va_nd isC = true) (hC : isC.map (fun i => ws[i]?) = wc.map some) (b : Nat) (As : List Value)
    (q0 : Nat) {ci : Nat} {fs : List Value} {r : vw_C} (hc : cls[ci]? = some r) (he : ws[q0]? = some (b, .inr (ci, fs))) : PreV s H r.1 b (va_Pc (.ref b :: As) (gPre D ca ad av wc H.size)) As :=
  ⟨gBlind, va_recv hK hP hc he, gAt hP hD hK hS hA hX isC hn hC (.ref b :: As)⟩
theorem gJoin {D : va_G} {ca : Nat → ClassId} {A : Nat → Prop} {ws wc wr w1 : va_W} {H H1 : Heap} {t : State} (hP : va_P D cls ws H) (hD : va_D A ws) (isC isR : List Nat) (hC : isC.map (fun i => ws[i]?) = wc.map some) (hR : isR.map (fun i => ws[i]?) = wr.map some) (hn : va_nd isR = true) (hdis : isR.all (fun i => !isC.contains i) = true)
    (hk : ∀ q : Nat, q < H.size → ¬ va_A wc H.size q → H1[q]? = H[q]?) (hF : ∀ q, va_A wc H.size q → A q) (ht : t.heap = H1) (hB : gB D ca (va_A wc H.size) w1 t) : va_P D cls (wr ++ w1) H1 ∧ va_D A (wr ++ w1) := by
  obtain ⟨h1, -, h3⟩ := hB
  rw [ht] at h1
  exact va_join hP hD isC isR hC hR hn (fun i hi => by simpa using List.all_eq_true.mp hdis i hi) hk hF h1 h3
/-! ===== fields, by what is known of them ===== -/
section GW
variable {p : Program} {l : Launch} {e : Env} {R : Room} {s : State} {m : MethodId} {args : Array Value} {below : List Frame} {meth : Method} {c : Code} {H : Heap} {locs : List Loc} {cells slots : Nat} {Q : State → Prop}
variable {cc : ByteArray} {pc : Nat} {ls : Array Slot} {rest : List Value} {D : va_G} {A : Nat → Prop} {a : Nat} {tys : List (ClassId × FieldType)} {ws : va_W} {H0 : Heap}
variable {own C : String} {T : u_T} {N ci index : Nat} {f : Nat → Value} {L : List (Nat × Value)}
theorem gget (hx : p.tables.exec = Jvm.exec) (hb : c.code = cc) (hts : ∀ w ∈ wAll, w.before args s = true) (hin : ∀ w ∈ u_ws C T N, w ∈ wAll) (hown : s.vm.findClass own = some m.cls) (hK : va_K D cls tys s) (hP : va_P D cls ws H) (q0 : Nat) (he : ws[q0]? = some (a, .inr (ci, rg N f))) (hc : cls[ci]? = some (C, T, N)) (hF : gF f L) (i : Nat) {k : Nat} {v : Value} (hi : L[i]? = some (k, v)) (hk : k < N)
    (hlink : Cond.fieldLink own index (T k).1 (T k).2.1 (T k).2.2.1 ∈ wAll) (hdg : decode cc pc = .ok (.getfield index, 3)) (kk : W p l e R s m args below meth c H locs cells slots Q (F0 m (pc + 3) ls (v :: rest))) : W p l e R s m args below meth c H locs cells slots Q (F0 m pc ls (.ref a :: rest)) :=
  va_get hx hb hts hin hown hK hP q0 he hc k hk (hts _ hlink) (fun _ h => h) (rg_get hk (hF.at i hi)) hdg kk
theorem gput (hx : p.tables.exec = Jvm.exec) (hb : c.code = cc) (hts : ∀ w ∈ wAll, w.before args s = true) (hin : ∀ w ∈ u_ws C T N, w ∈ wAll) (ty0 : Nat → FieldType) (hty : ∀ k, k < N → parseFieldDescriptor (T k).2.2.1 = some (ty0 k)) (hnm : ∀ a, a < N → ∀ b, b < N → a ≠ b → (T a).2.1 ≠ (T b).2.1) (hown : s.vm.findClass own = some m.cls) (hK : va_K D cls tys s) (hP : va_P D cls ws H) (hD : va_D A ws) (hS : va_S A H0 H locs) (q0 : Nat) (he : ws[q0]? = some (a, .inr (ci, rg N f))) (hc : cls[ci]? = some (C, T, N)) (hF : gF f L) (k : Nat) (hk : k < N)
    (hlink : Cond.fieldLink own index (T k).1 (T k).2.1 (T k).2.2.1 ∈ wAll) (hfin : (T k).2.2.2 = false) {v : Value} (hn : narrow (ty0 k) v = v) (hfit : fits (ty0 k) v = true) (hdg : decode cc pc = .ok (.putfield index, 3)) {L' : List (Nat × Value)} (hL : (k, v) :: L.filter (fun q => !(q.1 == k)) = L')
    (kk : ∀ (f' : Nat → Value) (H1 : Heap) (locs1 : List Loc), gF f' L' → gM f f' [k] → va_P D cls (ws.set q0 (a, .inr (ci, rg N f'))) H1 → va_D A (ws.set q0 (a, .inr (ci, rg N f'))) → va_S A H0 H1 locs1 → W p l e R s m args below meth c H1 locs1 cells slots Q (F0 m (pc + 3) ls rest)) : W p l e R s m args below meth c H locs cells slots Q (F0 m pc ls (v :: .ref a :: rest)) := by
  refine va_put hx hb hts hin ty0 hty hnm hown hK hP hD hS q0 he hc k hk (hts _ hlink) (fun _ h => h) hfin (hty k hk) hn hfit (by rw [rg_len]; exact hk) hdg (fun H1 locs1 hP1 hD1 hS1 => ?_)
  rw [rg_set] at hP1 hD1
  exact kk (va_up f k v) H1 locs1 (hF.put k v hL) (gM.up f k v) hP1 hD1 hS1
theorem gputF (hx : p.tables.exec = Jvm.exec) (hb : c.code = cc) (hts : ∀ w ∈ wAll, w.before args s = true) (hin : ∀ w ∈ u_ws C T N, w ∈ wAll) (ty0 : Nat → FieldType) (hty : ∀ k, k < N → parseFieldDescriptor (T k).2.2.1 = some (ty0 k)) (hnm : ∀ a, a < N → ∀ b, b < N → a ≠ b → (T a).2.1 ≠ (T b).2.1) (hown : s.vm.findClass own = some m.cls) (hK : va_K D cls tys s) (hP : va_P D cls ws H) (hD : va_D A ws) (hS : va_S A H0 H locs) (q0 : Nat) (he : ws[q0]? = some (a, .inr (ci, rg N f))) (hc : cls[ci]? = some (C, T, N)) (hF : gF f L) (k : Nat) (hk : k < N)
    (hlink : Cond.fieldLink own index (T k).1 (T k).2.1 (T k).2.2.1 ∈ wAll) (hfin : (T k).2.2.2 = true) (hin2 : meth.name = "<init>") (hdecl : (T k).1 = own) {v : Value} (hn : narrow (ty0 k) v = v) (hfit : fits (ty0 k) v = true) (hdg : decode cc pc = .ok (.putfield index, 3)) {L' : List (Nat × Value)} (hL : (k, v) :: L.filter (fun q => !(q.1 == k)) = L')
    (kk : ∀ (f' : Nat → Value) (H1 : Heap) (locs1 : List Loc), gF f' L' → gM f f' [k] → va_P D cls (ws.set q0 (a, .inr (ci, rg N f'))) H1 → va_D A (ws.set q0 (a, .inr (ci, rg N f'))) → va_S A H0 H1 locs1 → W p l e R s m args below meth c H1 locs1 cells slots Q (F0 m (pc + 3) ls rest)) : W p l e R s m args below meth c H locs cells slots Q (F0 m pc ls (v :: .ref a :: rest)) := by
  refine va_putF hx hb hts hin ty0 hty hnm hown hK hP hD hS q0 he hc k hk (hts _ hlink) (fun _ h => h) hfin hin2 hdecl (hty k hk) hn hfit (by rw [rg_len]; exact hk) hdg (fun H1 locs1 hP1 hD1 hS1 => ?_)
  rw [rg_set] at hP1 hD1
  exact kk (va_up f k v) H1 locs1 (hF.put k v hL) (gM.up f k v) hP1 hD1 hS1
theorem gnew (hx : p.tables.exec = Jvm.exec) (hb : c.code = cc) (hts : ∀ w ∈ wAll, w.before args s = true) (hin : ∀ w ∈ u_ws C T N, w ∈ wAll) (ty0 : Nat → FieldType) (hty : ∀ k, k < N → parseFieldDescriptor (T k).2.2.1 = some (ty0 k)) (hown : s.vm.findClass own = some m.cls) (hcl : Cond.classLink own index C ∈ wAll) (hinst : Cond.instantiable C N ∈ wAll) (hini : Cond.initialized C ∈ wAll)
    (hK : va_K D cls tys s) (hP : va_P D cls ws H) (hD : va_D A ws) (hS : va_S A H0 H locs) (hA : ∀ q, H0.size ≤ q → A q) (hc : cls[ci]? = some (C, T, N)) (hcells : cells + 1 ≤ R.cells) (hslots : slots + N ≤ R.slots) (hdg : decode cc pc = .ok (.new index, 3)) (hL : gF (fun j => defaultValue (ty0 j)) L)
    (kk : ∀ (f' : Nat → Value) (q : Nat) (H1 : Heap), gF f' L → va_P D cls (ws ++ [(q, .inr (ci, rg N f'))]) H1 → va_D A (ws ++ [(q, .inr (ci, rg N f'))]) → va_S A H0 H1 locs → W p l e R s m args below meth c H1 locs (cells + 1) (slots + N) Q (F0 m (pc + 3) ls (.ref q :: rest))) : W p l e R s m args below meth c H locs cells slots Q (F0 m pc ls rest) :=
  va_new (fs := rg N (fun j => defaultValue (ty0 j))) hx hb hts hin ty0 hty hown (hts _ hcl) (hts _ hinst) (hts _ hini) hK hP hD hS hA hc (fun j hj => (rg_V (f := fun j => defaultValue (ty0 j)) hj).symm) hcells hslots hdg (fun q H1 h1 h2 h3 => kk _ q H1 hL h1 h2 h3)
/-- a new array that nobody looks into: it leaves the world at once -/
theorem gnewaX (hx : p.tables.exec = Jvm.exec) (hb : c.code = cc) (hts : ∀ w ∈ wAll, w.before args s = true) {atype : ArrayType} (harr : Cond.arrayClass (newarray.typeOf atype) ∈ wAll) (hP : va_P D cls ws H) (hS : va_S A H0 H locs) {n : Int32} {N' : Nat} (hn : ¬ n < 0) (hN : n.toNatClampNeg = N') (hbytes : N' * componentBytes (newarray.typeOf atype) ≤ 536870912) (hcells : cells + 1 ≤ R.cells) (hslots : slots + N' ≤ R.slots) (hdg : decode cc pc = .ok (.newarray atype, 2))
    (kk : ∀ (q : Nat) (H1 : Heap), va_P D cls ws H1 → va_S A H0 H1 locs → W p l e R s m args below meth c H1 locs (cells + 1) (slots + N') Q (F0 m (pc + 2) ls (.ref q :: rest))) : W p l e R s m args below meth c H locs cells slots Q (F0 m pc ls (.int n :: rest)) := by
  refine va_newaK hx hb (hts _ harr) rfl hdg rfl hn hN hbytes hcells hslots rfl fun H1 cA e1 z1 o1 hAr hNm => ?_
  exact kk H.size H1 (hP.kept (fun k x hx => o1 x.1 ((hP k x hx).lt))) ⟨Nat.le_trans hS.1 (by omega), fun x h1 h2 => (o1 x (Nat.lt_of_lt_of_le h1 hS.1)).trans (hS.2.1 x h1 h2), hS.2.2⟩
theorem gnewqX (hx : p.tables.exec = Jvm.exec) (hb : c.code = cc) (hts : ∀ w ∈ wAll, w.before args s = true) (hown : s.vm.findClass own = some m.cls) (hcl : Cond.classLink own index C ∈ wAll) (hover : va_AO C s) (hK : va_K D cls tys s) (hP : va_P D cls ws H) (hD : va_D A ws) (hS : va_S A H0 H locs) (hA : ∀ q, H0.size ≤ q → A q) {n : Int32} {N' : Nat} (hn : ¬ n < 0) (hN : n.toNatClampNeg = N') (hbytes : N' * 4 ≤ 536870912) (hcells : cells + 1 ≤ R.cells) (hslots : slots + N' ≤ R.slots) (hdg : decode cc pc = .ok (.anewarray index, 3))
    (kk : ∀ (q : Nat) (H1 : Heap), va_P D cls ws H1 → va_S A H0 H1 locs → W p l e R s m args below meth c H1 locs (cells + 1) (slots + N') Q (F0 m (pc + 3) ls (.ref q :: rest))) : W p l e R s m args below meth c H locs cells slots Q (F0 m pc ls (.int n :: rest)) := by
  refine va_newq hx hb hown (hts _ hcl) hover hK hP hD hS hA hn hN hbytes hcells hslots hdg (fun q cA H1 hK1 hP1 hD1 hS1 => kk q H1 (fun k x hx => hP1 k x ?_) hS1)
  rw [List.getElem?_append_left ((List.getElem?_eq_some_iff.mp hx).1)]
  exact hx
/-- a new array of known class -/
theorem gnewa (hx : p.tables.exec = Jvm.exec) (hb : c.code = cc) (hts : ∀ w ∈ wAll, w.before args s = true) {atype : ArrayType} {ty : FieldType} (hty : newarray.typeOf atype = ty) (harr : Cond.arrayClass (newarray.typeOf atype) ∈ wAll) (hK : va_K D cls tys s) (t0 : Nat) {cy : ClassId} (ht : tys[t0]? = some (cy, ty)) (hu : ∀ c1 c2, va_RA s c1 ty → va_RA s c2 ty → c1 = c2) (hP : va_P D cls ws H) (hD : va_D A ws) (hS : va_S A H0 H locs) (hA : ∀ q, H0.size ≤ q → A q)
    {n : Int32} {N' : Nat} {a0 : vp_A} (ha : ∀ cA : ClassId, vp_cell cA a0 = arrV cA N' (fun _ => defaultValue ty)) (hn : ¬ n < 0) (hN : n.toNatClampNeg = N') (hbytes : N' * componentBytes ty ≤ 536870912) (hcells : cells + 1 ≤ R.cells) (hslots : slots + N' ≤ R.slots) (hdg : decode cc pc = .ok (.newarray atype, 2))
    (kk : ∀ (q : Nat) (H1 : Heap), va_P D cls (ws ++ [(q, .inl (cy, a0))]) H1 → va_D A (ws ++ [(q, .inl (cy, a0))]) → va_S A H0 H1 locs →
      W p l e R s m args below meth c H1 locs (cells + 1) (slots + N') Q (F0 m (pc + 2) ls (.ref q :: rest))) : W p l e R s m args below meth c H locs cells slots Q (F0 m pc ls (.int n :: rest)) := by
  refine va_newa hx hb (hts _ harr) hty hK hP hD hS hA ha hn hN hbytes hcells hslots hdg (fun q cA H1 hK1 hP1 hD1 hS1 => ?_)
  have h1 := (hK1.2 tys.length (cA, ty) (by simp)).2
  have h2 := (hK.2 t0 (cy, ty) ht).2
  have e : cA = cy := hu _ _ h1 h2
  subst e
  exact kk q H1 hP1 hD1 hS1
end GW
theorem gu_int {s : State} {c1 c2 : ClassId} (h1 : va_RA s c1 .int) (h2 : va_RA s c2 .int) : c1 = c2 := Option.some.inj ((va_nm_int h1).symm.trans (va_nm_int h2))
theorem gu_long {s : State} {c1 c2 : ClassId} (h1 : va_RA s c1 .long) (h2 : va_RA s c2 .long) : c1 = c2 := Option.some.inj ((va_nm_long h1).symm.trans (va_nm_long h2))
theorem gu_byte {s : State} {c1 c2 : ClassId} (h1 : va_RA s c1 .byte) (h2 : va_RA s c2 .byte) : c1 = c2 := Option.some.inj ((va_nm_byte h1).symm.trans (va_nm_byte h2))
theorem gu_bool {s : State} {c1 c2 : ClassId} (h1 : va_RA s c1 .boolean) (h2 : va_RA s c2 .boolean) : c1 = c2 := Option.some.inj ((va_nm_boolean h1).symm.trans (va_nm_boolean h2))
end
