section
-- ===== PART A: goes FIRST, ahead of the names: the tables' words, and 'selects' of the private methods out of them =====
/-- a private method of a class that the tables say can be made, by its rows of tables_1 -/
def lw_okq (q : MethodName × Nat) : Prop := (q.1.cls ≠ "java/lang/invoke/MethodHandle" ∧ q.1.cls ≠ "java/lang/invoke/VarHandle") ∧ Cond.instantiable q.1.cls q.2 ∈ tables_1 ∧ Cond.privateMethod q.1 ∈ tables_1 ∧ Cond.instanceMethod q.1 ∈ tables_1
theorem lw_p0 : lw_okq (⟨"TilesOfLaw$Reader", "advance", "()V"⟩, 9) := ⟨⟨by decide +kernel, by decide +kernel⟩, List.mem_of_getElem? (i := 93) (by decide +kernel), List.mem_of_getElem? (i := 206) (by decide +kernel), List.mem_of_getElem? (i := 207) (by decide +kernel)⟩
theorem lw_p1 : lw_okq (⟨"TilesOfLaw$Reader", "wordRead", "()I"⟩, 9) := ⟨⟨by decide +kernel, by decide +kernel⟩, List.mem_of_getElem? (i := 93) (by decide +kernel), List.mem_of_getElem? (i := 213) (by decide +kernel), List.mem_of_getElem? (i := 214) (by decide +kernel)⟩
theorem lw_p2 : lw_okq (⟨"TilesOfLaw$Reader", "spells", "(Ljava/lang/String;)Z"⟩, 9) := ⟨⟨by decide +kernel, by decide +kernel⟩, List.mem_of_getElem? (i := 93) (by decide +kernel), List.mem_of_getElem? (i := 218) (by decide +kernel), List.mem_of_getElem? (i := 219) (by decide +kernel)⟩
theorem lw_p3 : lw_okq (⟨"TilesOfLaw$Reader", "readDigits", "()V"⟩, 9) := ⟨⟨by decide +kernel, by decide +kernel⟩, List.mem_of_getElem? (i := 93) (by decide +kernel), List.mem_of_getElem? (i := 238) (by decide +kernel), List.mem_of_getElem? (i := 239) (by decide +kernel)⟩
theorem lw_p4 : lw_okq (⟨"TilesOfLaw$Reader", "readPart", "(I)I"⟩, 9) := ⟨⟨by decide +kernel, by decide +kernel⟩, List.mem_of_getElem? (i := 93) (by decide +kernel), List.mem_of_getElem? (i := 245) (by decide +kernel), List.mem_of_getElem? (i := 246) (by decide +kernel)⟩
theorem lw_p5 : lw_okq (⟨"TilesOfLaw$Reader", "need", "(I)V"⟩, 9) := ⟨⟨by decide +kernel, by decide +kernel⟩, List.mem_of_getElem? (i := 93) (by decide +kernel), List.mem_of_getElem? (i := 249) (by decide +kernel), List.mem_of_getElem? (i := 250) (by decide +kernel)⟩
theorem lw_p6 : lw_okq (⟨"TilesOfLaw$Reader", "refuse", "()V"⟩, 9) := ⟨⟨by decide +kernel, by decide +kernel⟩, List.mem_of_getElem? (i := 93) (by decide +kernel), List.mem_of_getElem? (i := 253) (by decide +kernel), List.mem_of_getElem? (i := 254) (by decide +kernel)⟩
theorem lw_p7 : lw_okq (⟨"TilesOfLaw$Reader", "readE", "(I)V"⟩, 9) := ⟨⟨by decide +kernel, by decide +kernel⟩, List.mem_of_getElem? (i := 93) (by decide +kernel), List.mem_of_getElem? (i := 257) (by decide +kernel), List.mem_of_getElem? (i := 258) (by decide +kernel)⟩
theorem lw_p8 : lw_okq (⟨"TilesOfLaw$Reader", "readAnd", "(I)V"⟩, 9) := ⟨⟨by decide +kernel, by decide +kernel⟩, List.mem_of_getElem? (i := 93) (by decide +kernel), List.mem_of_getElem? (i := 261) (by decide +kernel), List.mem_of_getElem? (i := 262) (by decide +kernel)⟩
theorem lw_p9 : lw_okq (⟨"TilesOfLaw$Reader", "readNot", "(I)V"⟩, 9) := ⟨⟨by decide +kernel, by decide +kernel⟩, List.mem_of_getElem? (i := 93) (by decide +kernel), List.mem_of_getElem? (i := 265) (by decide +kernel), List.mem_of_getElem? (i := 266) (by decide +kernel)⟩
theorem lw_p10 : lw_okq (⟨"TilesOfLaw$Reader", "opens", "(I)Z"⟩, 9) := ⟨⟨by decide +kernel, by decide +kernel⟩, List.mem_of_getElem? (i := 93) (by decide +kernel), List.mem_of_getElem? (i := 269) (by decide +kernel), List.mem_of_getElem? (i := 270) (by decide +kernel)⟩
theorem lw_p11 : lw_okq (⟨"TilesOfLaw$Reader", "write", "(I)V"⟩, 9) := ⟨⟨by decide +kernel, by decide +kernel⟩, List.mem_of_getElem? (i := 93) (by decide +kernel), List.mem_of_getElem? (i := 273) (by decide +kernel), List.mem_of_getElem? (i := 274) (by decide +kernel)⟩
theorem lw_p12 : lw_okq (⟨"TilesOfLaw$Reader", "readSum", "(I)V"⟩, 9) := ⟨⟨by decide +kernel, by decide +kernel⟩, List.mem_of_getElem? (i := 93) (by decide +kernel), List.mem_of_getElem? (i := 277) (by decide +kernel), List.mem_of_getElem? (i := 278) (by decide +kernel)⟩
theorem lw_p13 : lw_okq (⟨"TilesOfLaw$Reader", "readTerm", "(I)V"⟩, 9) := ⟨⟨by decide +kernel, by decide +kernel⟩, List.mem_of_getElem? (i := 93) (by decide +kernel), List.mem_of_getElem? (i := 281) (by decide +kernel), List.mem_of_getElem? (i := 282) (by decide +kernel)⟩
theorem lw_p14 : lw_okq (⟨"TilesOfLaw$Reader", "readOne", "(I)V"⟩, 9) := ⟨⟨by decide +kernel, by decide +kernel⟩, List.mem_of_getElem? (i := 93) (by decide +kernel), List.mem_of_getElem? (i := 285) (by decide +kernel), List.mem_of_getElem? (i := 286) (by decide +kernel)⟩
theorem lw_p15 : lw_okq (⟨"TilesOfLaw", "canSet", "(III)Z"⟩, 8) := ⟨⟨by decide +kernel, by decide +kernel⟩, List.mem_of_getElem? (i := 17) (by decide +kernel), List.mem_of_getElem? (i := 360) (by decide +kernel), List.mem_of_getElem? (i := 361) (by decide +kernel)⟩
def lw_privs_1 : List (MethodName × Nat) := [(⟨"TilesOfLaw$Reader", "advance", "()V"⟩, 9), (⟨"TilesOfLaw$Reader", "wordRead", "()I"⟩, 9), (⟨"TilesOfLaw$Reader", "spells", "(Ljava/lang/String;)Z"⟩, 9), (⟨"TilesOfLaw$Reader", "readDigits", "()V"⟩, 9), (⟨"TilesOfLaw$Reader", "readPart", "(I)I"⟩, 9), (⟨"TilesOfLaw$Reader", "need", "(I)V"⟩, 9), (⟨"TilesOfLaw$Reader", "refuse", "()V"⟩, 9), (⟨"TilesOfLaw$Reader", "readE", "(I)V"⟩, 9), (⟨"TilesOfLaw$Reader", "readAnd", "(I)V"⟩, 9), (⟨"TilesOfLaw$Reader", "readNot", "(I)V"⟩, 9), (⟨"TilesOfLaw$Reader", "opens", "(I)Z"⟩, 9), (⟨"TilesOfLaw$Reader", "write", "(I)V"⟩, 9), (⟨"TilesOfLaw$Reader", "readSum", "(I)V"⟩, 9), (⟨"TilesOfLaw$Reader", "readTerm", "(I)V"⟩, 9), (⟨"TilesOfLaw$Reader", "readOne", "(I)V"⟩, 9), (⟨"TilesOfLaw", "canSet", "(III)Z"⟩, 8)]
theorem lw_r1 : ∀ q ∈ lw_privs_1, lw_okq q := List.forall_mem_cons.mpr ⟨lw_p0, List.forall_mem_cons.mpr ⟨lw_p1, List.forall_mem_cons.mpr ⟨lw_p2, List.forall_mem_cons.mpr ⟨lw_p3, List.forall_mem_cons.mpr ⟨lw_p4, List.forall_mem_cons.mpr ⟨lw_p5, List.forall_mem_cons.mpr ⟨lw_p6, List.forall_mem_cons.mpr ⟨lw_p7, List.forall_mem_cons.mpr ⟨lw_p8, List.forall_mem_cons.mpr ⟨lw_p9, List.forall_mem_cons.mpr ⟨lw_p10, List.forall_mem_cons.mpr ⟨lw_p11, List.forall_mem_cons.mpr ⟨lw_p12, List.forall_mem_cons.mpr ⟨lw_p13, List.forall_mem_cons.mpr ⟨lw_p14, List.forall_mem_cons.mpr ⟨lw_p15, fun _ h => absurd h List.not_mem_nil⟩⟩⟩⟩⟩⟩⟩⟩⟩⟩⟩⟩⟩⟩⟩⟩
theorem lw_p16 : lw_okq (⟨"TilesOfLaw", "isParty", "(I)Z"⟩, 8) := ⟨⟨by decide +kernel, by decide +kernel⟩, List.mem_of_getElem? (i := 17) (by decide +kernel), List.mem_of_getElem? (i := 374) (by decide +kernel), List.mem_of_getElem? (i := 375) (by decide +kernel)⟩
theorem lw_p17 : lw_okq (⟨"TilesOfLaw", "toldOfTile", "(II)I"⟩, 8) := ⟨⟨by decide +kernel, by decide +kernel⟩, List.mem_of_getElem? (i := 17) (by decide +kernel), List.mem_of_getElem? (i := 389) (by decide +kernel), List.mem_of_getElem? (i := 390) (by decide +kernel)⟩
theorem lw_p18 : lw_okq (⟨"TilesOfLaw", "toldOfParty", "(II)I"⟩, 8) := ⟨⟨by decide +kernel, by decide +kernel⟩, List.mem_of_getElem? (i := 17) (by decide +kernel), List.mem_of_getElem? (i := 397) (by decide +kernel), List.mem_of_getElem? (i := 398) (by decide +kernel)⟩
theorem lw_p19 : lw_okq (⟨"TilesOfLaw$Law", "value", "(LTilesOfLaw$Floor;II)I"⟩, 3) := ⟨⟨by decide +kernel, by decide +kernel⟩, List.mem_of_getElem? (i := 74) (by decide +kernel), List.mem_of_getElem? (i := 405) (by decide +kernel), List.mem_of_getElem? (i := 406) (by decide +kernel)⟩
theorem lw_p20 : lw_okq (⟨"TilesOfLaw$Floor", "leapsBy", "(II)Z"⟩, 9) := ⟨⟨by decide +kernel, by decide +kernel⟩, List.mem_of_getElem? (i := 25) (by decide +kernel), List.mem_of_getElem? (i := 486) (by decide +kernel), List.mem_of_getElem? (i := 487) (by decide +kernel)⟩
theorem lw_p21 : lw_okq (⟨"TilesOfLaw", "isText", "(I)Z"⟩, 8) := ⟨⟨by decide +kernel, by decide +kernel⟩, List.mem_of_getElem? (i := 17) (by decide +kernel), List.mem_of_getElem? (i := 525) (by decide +kernel), List.mem_of_getElem? (i := 526) (by decide +kernel)⟩
theorem lw_p22 : lw_okq (⟨"TilesOfLaw", "foundWithOneStill", "(III)I"⟩, 8) := ⟨⟨by decide +kernel, by decide +kernel⟩, List.mem_of_getElem? (i := 17) (by decide +kernel), List.mem_of_getElem? (i := 587) (by decide +kernel), List.mem_of_getElem? (i := 588) (by decide +kernel)⟩
theorem lw_p23 : lw_okq (⟨"TilesOfLaw", "foundWithRed", "(II)I"⟩, 8) := ⟨⟨by decide +kernel, by decide +kernel⟩, List.mem_of_getElem? (i := 17) (by decide +kernel), List.mem_of_getElem? (i := 591) (by decide +kernel), List.mem_of_getElem? (i := 592) (by decide +kernel)⟩
theorem lw_p24 : lw_okq (⟨"TilesOfLaw", "foundWithHollow", "(III)I"⟩, 8) := ⟨⟨by decide +kernel, by decide +kernel⟩, List.mem_of_getElem? (i := 17) (by decide +kernel), List.mem_of_getElem? (i := 595) (by decide +kernel), List.mem_of_getElem? (i := 596) (by decide +kernel)⟩
theorem lw_p25 : lw_okq (⟨"TilesOfLaw", "sheetAt", "(I)LTilesOfLaw$Sheet;"⟩, 8) := ⟨⟨by decide +kernel, by decide +kernel⟩, List.mem_of_getElem? (i := 17) (by decide +kernel), List.mem_of_getElem? (i := 610) (by decide +kernel), List.mem_of_getElem? (i := 611) (by decide +kernel)⟩
theorem lw_p26 : lw_okq (⟨"TilesOfLaw", "firstOtherwise", "(LTilesOfLaw$Sheet;I)I"⟩, 8) := ⟨⟨by decide +kernel, by decide +kernel⟩, List.mem_of_getElem? (i := 17) (by decide +kernel), List.mem_of_getElem? (i := 614) (by decide +kernel), List.mem_of_getElem? (i := 615) (by decide +kernel)⟩
theorem lw_p27 : lw_okq (⟨"TilesOfLaw", "wearyTold", "(LTilesOfLaw$Sheet;II)I"⟩, 8) := ⟨⟨by decide +kernel, by decide +kernel⟩, List.mem_of_getElem? (i := 17) (by decide +kernel), List.mem_of_getElem? (i := 619) (by decide +kernel), List.mem_of_getElem? (i := 620) (by decide +kernel)⟩
theorem lw_p28 : lw_okq (⟨"TilesOfLaw", "bitsTold", "(LTilesOfLaw$Sheet;II)I"⟩, 8) := ⟨⟨by decide +kernel, by decide +kernel⟩, List.mem_of_getElem? (i := 17) (by decide +kernel), List.mem_of_getElem? (i := 623) (by decide +kernel), List.mem_of_getElem? (i := 624) (by decide +kernel)⟩
theorem lw_p29 : lw_okq (⟨"TilesOfLawModel", "spell", "(IIIIIIIII)V"⟩, 41) := ⟨⟨by decide +kernel, by decide +kernel⟩, List.mem_of_getElem? (i := 702) (by decide +kernel), List.mem_of_getElem? (i := 708) (by decide +kernel), List.mem_of_getElem? (i := 709) (by decide +kernel)⟩
theorem lw_p30 : lw_okq (⟨"TilesOfLawModel", "isOf", "(II)Z"⟩, 41) := ⟨⟨by decide +kernel, by decide +kernel⟩, List.mem_of_getElem? (i := 702) (by decide +kernel), List.mem_of_getElem? (i := 844) (by decide +kernel), List.mem_of_getElem? (i := 845) (by decide +kernel)⟩
theorem lw_p31 : lw_okq (⟨"TilesOfLawModel", "isOne", "(I)Z"⟩, 41) := ⟨⟨by decide +kernel, by decide +kernel⟩, List.mem_of_getElem? (i := 702) (by decide +kernel), List.mem_of_getElem? (i := 852) (by decide +kernel), List.mem_of_getElem? (i := 853) (by decide +kernel)⟩
def lw_privs_2 : List (MethodName × Nat) := [(⟨"TilesOfLaw", "isParty", "(I)Z"⟩, 8), (⟨"TilesOfLaw", "toldOfTile", "(II)I"⟩, 8), (⟨"TilesOfLaw", "toldOfParty", "(II)I"⟩, 8), (⟨"TilesOfLaw$Law", "value", "(LTilesOfLaw$Floor;II)I"⟩, 3), (⟨"TilesOfLaw$Floor", "leapsBy", "(II)Z"⟩, 9), (⟨"TilesOfLaw", "isText", "(I)Z"⟩, 8), (⟨"TilesOfLaw", "foundWithOneStill", "(III)I"⟩, 8), (⟨"TilesOfLaw", "foundWithRed", "(II)I"⟩, 8), (⟨"TilesOfLaw", "foundWithHollow", "(III)I"⟩, 8), (⟨"TilesOfLaw", "sheetAt", "(I)LTilesOfLaw$Sheet;"⟩, 8), (⟨"TilesOfLaw", "firstOtherwise", "(LTilesOfLaw$Sheet;I)I"⟩, 8), (⟨"TilesOfLaw", "wearyTold", "(LTilesOfLaw$Sheet;II)I"⟩, 8), (⟨"TilesOfLaw", "bitsTold", "(LTilesOfLaw$Sheet;II)I"⟩, 8), (⟨"TilesOfLawModel", "spell", "(IIIIIIIII)V"⟩, 41), (⟨"TilesOfLawModel", "isOf", "(II)Z"⟩, 41), (⟨"TilesOfLawModel", "isOne", "(I)Z"⟩, 41)]
theorem lw_r2 : ∀ q ∈ lw_privs_2, lw_okq q := List.forall_mem_cons.mpr ⟨lw_p16, List.forall_mem_cons.mpr ⟨lw_p17, List.forall_mem_cons.mpr ⟨lw_p18, List.forall_mem_cons.mpr ⟨lw_p19, List.forall_mem_cons.mpr ⟨lw_p20, List.forall_mem_cons.mpr ⟨lw_p21, List.forall_mem_cons.mpr ⟨lw_p22, List.forall_mem_cons.mpr ⟨lw_p23, List.forall_mem_cons.mpr ⟨lw_p24, List.forall_mem_cons.mpr ⟨lw_p25, List.forall_mem_cons.mpr ⟨lw_p26, List.forall_mem_cons.mpr ⟨lw_p27, List.forall_mem_cons.mpr ⟨lw_p28, List.forall_mem_cons.mpr ⟨lw_p29, List.forall_mem_cons.mpr ⟨lw_p30, List.forall_mem_cons.mpr ⟨lw_p31, fun _ h => absurd h List.not_mem_nil⟩⟩⟩⟩⟩⟩⟩⟩⟩⟩⟩⟩⟩⟩⟩⟩
theorem lw_p32 : lw_okq (⟨"TilesOfLawModel", "whoOn", "(I)I"⟩, 41) := ⟨⟨by decide +kernel, by decide +kernel⟩, List.mem_of_getElem? (i := 702) (by decide +kernel), List.mem_of_getElem? (i := 859) (by decide +kernel), List.mem_of_getElem? (i := 860) (by decide +kernel)⟩
theorem lw_p33 : lw_okq (⟨"TilesOfLawModel", "onOf", "(I)I"⟩, 41) := ⟨⟨by decide +kernel, by decide +kernel⟩, List.mem_of_getElem? (i := 702) (by decide +kernel), List.mem_of_getElem? (i := 863) (by decide +kernel), List.mem_of_getElem? (i := 864) (by decide +kernel)⟩
theorem lw_p34 : lw_okq (⟨"TilesOfLawModel", "turnOf", "(I)I"⟩, 41) := ⟨⟨by decide +kernel, by decide +kernel⟩, List.mem_of_getElem? (i := 702) (by decide +kernel), List.mem_of_getElem? (i := 875) (by decide +kernel), List.mem_of_getElem? (i := 876) (by decide +kernel)⟩
theorem lw_p35 : lw_okq (⟨"TilesOfLawModel", "says", "(II)I"⟩, 41) := ⟨⟨by decide +kernel, by decide +kernel⟩, List.mem_of_getElem? (i := 702) (by decide +kernel), List.mem_of_getElem? (i := 879) (by decide +kernel), List.mem_of_getElem? (i := 880) (by decide +kernel)⟩
theorem lw_p36 : lw_okq (⟨"TilesOfLawModel", "read", "(II)I"⟩, 41) := ⟨⟨by decide +kernel, by decide +kernel⟩, List.mem_of_getElem? (i := 702) (by decide +kernel), List.mem_of_getElem? (i := 886) (by decide +kernel), List.mem_of_getElem? (i := 887) (by decide +kernel)⟩
theorem lw_p37 : lw_okq (⟨"TilesOfLawModel", "next", "()V"⟩, 41) := ⟨⟨by decide +kernel, by decide +kernel⟩, List.mem_of_getElem? (i := 702) (by decide +kernel), List.mem_of_getElem? (i := 890) (by decide +kernel), List.mem_of_getElem? (i := 891) (by decide +kernel)⟩
theorem lw_p38 : lw_okq (⟨"TilesOfLawModel", "byteAt", "(I)I"⟩, 41) := ⟨⟨by decide +kernel, by decide +kernel⟩, List.mem_of_getElem? (i := 702) (by decide +kernel), List.mem_of_getElem? (i := 894) (by decide +kernel), List.mem_of_getElem? (i := 895) (by decide +kernel)⟩
theorem lw_p39 : lw_okq (⟨"TilesOfLawModel", "isWord", "(IIIIIIII)Z"⟩, 41) := ⟨⟨by decide +kernel, by decide +kernel⟩, List.mem_of_getElem? (i := 702) (by decide +kernel), List.mem_of_getElem? (i := 903) (by decide +kernel), List.mem_of_getElem? (i := 904) (by decide +kernel)⟩
theorem lw_p40 : lw_okq (⟨"TilesOfLawModel", "isLetter", "(II)Z"⟩, 41) := ⟨⟨by decide +kernel, by decide +kernel⟩, List.mem_of_getElem? (i := 702) (by decide +kernel), List.mem_of_getElem? (i := 907) (by decide +kernel), List.mem_of_getElem? (i := 908) (by decide +kernel)⟩
theorem lw_p41 : lw_okq (⟨"TilesOfLawModel", "part", "(Z)I"⟩, 41) := ⟨⟨by decide +kernel, by decide +kernel⟩, List.mem_of_getElem? (i := 702) (by decide +kernel), List.mem_of_getElem? (i := 911) (by decide +kernel), List.mem_of_getElem? (i := 912) (by decide +kernel)⟩
theorem lw_p42 : lw_okq (⟨"TilesOfLawModel", "fail", "()V"⟩, 41) := ⟨⟨by decide +kernel, by decide +kernel⟩, List.mem_of_getElem? (i := 702) (by decide +kernel), List.mem_of_getElem? (i := 915) (by decide +kernel), List.mem_of_getElem? (i := 916) (by decide +kernel)⟩
theorem lw_p43 : lw_okq (⟨"TilesOfLawModel", "either0", "()I"⟩, 41) := ⟨⟨by decide +kernel, by decide +kernel⟩, List.mem_of_getElem? (i := 702) (by decide +kernel), List.mem_of_getElem? (i := 919) (by decide +kernel), List.mem_of_getElem? (i := 920) (by decide +kernel)⟩
theorem lw_p44 : lw_okq (⟨"TilesOfLawModel", "both0", "()I"⟩, 41) := ⟨⟨by decide +kernel, by decide +kernel⟩, List.mem_of_getElem? (i := 702) (by decide +kernel), List.mem_of_getElem? (i := 923) (by decide +kernel), List.mem_of_getElem? (i := 924) (by decide +kernel)⟩
theorem lw_p45 : lw_okq (⟨"TilesOfLawModel", "not0", "()I"⟩, 41) := ⟨⟨by decide +kernel, by decide +kernel⟩, List.mem_of_getElem? (i := 702) (by decide +kernel), List.mem_of_getElem? (i := 927) (by decide +kernel), List.mem_of_getElem? (i := 928) (by decide +kernel)⟩
theorem lw_p46 : lw_okq (⟨"TilesOfLawModel", "opens", "()Z"⟩, 41) := ⟨⟨by decide +kernel, by decide +kernel⟩, List.mem_of_getElem? (i := 702) (by decide +kernel), List.mem_of_getElem? (i := 931) (by decide +kernel), List.mem_of_getElem? (i := 932) (by decide +kernel)⟩
theorem lw_p47 : lw_okq (⟨"TilesOfLawModel", "not1", "()I"⟩, 41) := ⟨⟨by decide +kernel, by decide +kernel⟩, List.mem_of_getElem? (i := 702) (by decide +kernel), List.mem_of_getElem? (i := 935) (by decide +kernel), List.mem_of_getElem? (i := 936) (by decide +kernel)⟩
def lw_privs_3 : List (MethodName × Nat) := [(⟨"TilesOfLawModel", "whoOn", "(I)I"⟩, 41), (⟨"TilesOfLawModel", "onOf", "(I)I"⟩, 41), (⟨"TilesOfLawModel", "turnOf", "(I)I"⟩, 41), (⟨"TilesOfLawModel", "says", "(II)I"⟩, 41), (⟨"TilesOfLawModel", "read", "(II)I"⟩, 41), (⟨"TilesOfLawModel", "next", "()V"⟩, 41), (⟨"TilesOfLawModel", "byteAt", "(I)I"⟩, 41), (⟨"TilesOfLawModel", "isWord", "(IIIIIIII)Z"⟩, 41), (⟨"TilesOfLawModel", "isLetter", "(II)Z"⟩, 41), (⟨"TilesOfLawModel", "part", "(Z)I"⟩, 41), (⟨"TilesOfLawModel", "fail", "()V"⟩, 41), (⟨"TilesOfLawModel", "either0", "()I"⟩, 41), (⟨"TilesOfLawModel", "both0", "()I"⟩, 41), (⟨"TilesOfLawModel", "not0", "()I"⟩, 41), (⟨"TilesOfLawModel", "opens", "()Z"⟩, 41), (⟨"TilesOfLawModel", "not1", "()I"⟩, 41)]
theorem lw_r3 : ∀ q ∈ lw_privs_3, lw_okq q := List.forall_mem_cons.mpr ⟨lw_p32, List.forall_mem_cons.mpr ⟨lw_p33, List.forall_mem_cons.mpr ⟨lw_p34, List.forall_mem_cons.mpr ⟨lw_p35, List.forall_mem_cons.mpr ⟨lw_p36, List.forall_mem_cons.mpr ⟨lw_p37, List.forall_mem_cons.mpr ⟨lw_p38, List.forall_mem_cons.mpr ⟨lw_p39, List.forall_mem_cons.mpr ⟨lw_p40, List.forall_mem_cons.mpr ⟨lw_p41, List.forall_mem_cons.mpr ⟨lw_p42, List.forall_mem_cons.mpr ⟨lw_p43, List.forall_mem_cons.mpr ⟨lw_p44, List.forall_mem_cons.mpr ⟨lw_p45, List.forall_mem_cons.mpr ⟨lw_p46, List.forall_mem_cons.mpr ⟨lw_p47, fun _ h => absurd h List.not_mem_nil⟩⟩⟩⟩⟩⟩⟩⟩⟩⟩⟩⟩⟩⟩⟩⟩
theorem lw_p48 : lw_okq (⟨"TilesOfLawModel", "not2", "()I"⟩, 41) := ⟨⟨by decide +kernel, by decide +kernel⟩, List.mem_of_getElem? (i := 702) (by decide +kernel), List.mem_of_getElem? (i := 939) (by decide +kernel), List.mem_of_getElem? (i := 940) (by decide +kernel)⟩
theorem lw_p49 : lw_okq (⟨"TilesOfLawModel", "not3", "()I"⟩, 41) := ⟨⟨by decide +kernel, by decide +kernel⟩, List.mem_of_getElem? (i := 702) (by decide +kernel), List.mem_of_getElem? (i := 943) (by decide +kernel), List.mem_of_getElem? (i := 944) (by decide +kernel)⟩
theorem lw_p50 : lw_okq (⟨"TilesOfLawModel", "not4", "()I"⟩, 41) := ⟨⟨by decide +kernel, by decide +kernel⟩, List.mem_of_getElem? (i := 702) (by decide +kernel), List.mem_of_getElem? (i := 947) (by decide +kernel), List.mem_of_getElem? (i := 948) (by decide +kernel)⟩
theorem lw_p51 : lw_okq (⟨"TilesOfLawModel", "not5", "()I"⟩, 41) := ⟨⟨by decide +kernel, by decide +kernel⟩, List.mem_of_getElem? (i := 702) (by decide +kernel), List.mem_of_getElem? (i := 951) (by decide +kernel), List.mem_of_getElem? (i := 952) (by decide +kernel)⟩
theorem lw_p52 : lw_okq (⟨"TilesOfLawModel", "added5", "()I"⟩, 41) := ⟨⟨by decide +kernel, by decide +kernel⟩, List.mem_of_getElem? (i := 702) (by decide +kernel), List.mem_of_getElem? (i := 955) (by decide +kernel), List.mem_of_getElem? (i := 956) (by decide +kernel)⟩
theorem lw_p53 : lw_okq (⟨"TilesOfLawModel", "term5", "()I"⟩, 41) := ⟨⟨by decide +kernel, by decide +kernel⟩, List.mem_of_getElem? (i := 702) (by decide +kernel), List.mem_of_getElem? (i := 959) (by decide +kernel), List.mem_of_getElem? (i := 960) (by decide +kernel)⟩
theorem lw_p54 : lw_okq (⟨"TilesOfLawModel", "atom5", "()I"⟩, 41) := ⟨⟨by decide +kernel, by decide +kernel⟩, List.mem_of_getElem? (i := 702) (by decide +kernel), List.mem_of_getElem? (i := 963) (by decide +kernel), List.mem_of_getElem? (i := 964) (by decide +kernel)⟩
theorem lw_p55 : lw_okq (⟨"TilesOfLawModel", "isSign", "(I)Z"⟩, 41) := ⟨⟨by decide +kernel, by decide +kernel⟩, List.mem_of_getElem? (i := 702) (by decide +kernel), List.mem_of_getElem? (i := 967) (by decide +kernel), List.mem_of_getElem? (i := 968) (by decide +kernel)⟩
theorem lw_p56 : lw_okq (⟨"TilesOfLawModel", "name", "()I"⟩, 41) := ⟨⟨by decide +kernel, by decide +kernel⟩, List.mem_of_getElem? (i := 702) (by decide +kernel), List.mem_of_getElem? (i := 971) (by decide +kernel), List.mem_of_getElem? (i := 972) (by decide +kernel)⟩
theorem lw_p57 : lw_okq (⟨"TilesOfLawModel", "added4", "()I"⟩, 41) := ⟨⟨by decide +kernel, by decide +kernel⟩, List.mem_of_getElem? (i := 702) (by decide +kernel), List.mem_of_getElem? (i := 977) (by decide +kernel), List.mem_of_getElem? (i := 978) (by decide +kernel)⟩
theorem lw_p58 : lw_okq (⟨"TilesOfLawModel", "term4", "()I"⟩, 41) := ⟨⟨by decide +kernel, by decide +kernel⟩, List.mem_of_getElem? (i := 702) (by decide +kernel), List.mem_of_getElem? (i := 981) (by decide +kernel), List.mem_of_getElem? (i := 982) (by decide +kernel)⟩
theorem lw_p59 : lw_okq (⟨"TilesOfLawModel", "atom4", "()I"⟩, 41) := ⟨⟨by decide +kernel, by decide +kernel⟩, List.mem_of_getElem? (i := 702) (by decide +kernel), List.mem_of_getElem? (i := 985) (by decide +kernel), List.mem_of_getElem? (i := 986) (by decide +kernel)⟩
theorem lw_p60 : lw_okq (⟨"TilesOfLawModel", "either5", "()I"⟩, 41) := ⟨⟨by decide +kernel, by decide +kernel⟩, List.mem_of_getElem? (i := 702) (by decide +kernel), List.mem_of_getElem? (i := 989) (by decide +kernel), List.mem_of_getElem? (i := 990) (by decide +kernel)⟩
theorem lw_p61 : lw_okq (⟨"TilesOfLawModel", "both5", "()I"⟩, 41) := ⟨⟨by decide +kernel, by decide +kernel⟩, List.mem_of_getElem? (i := 702) (by decide +kernel), List.mem_of_getElem? (i := 993) (by decide +kernel), List.mem_of_getElem? (i := 994) (by decide +kernel)⟩
theorem lw_p62 : lw_okq (⟨"TilesOfLawModel", "added3", "()I"⟩, 41) := ⟨⟨by decide +kernel, by decide +kernel⟩, List.mem_of_getElem? (i := 702) (by decide +kernel), List.mem_of_getElem? (i := 997) (by decide +kernel), List.mem_of_getElem? (i := 998) (by decide +kernel)⟩
theorem lw_p63 : lw_okq (⟨"TilesOfLawModel", "term3", "()I"⟩, 41) := ⟨⟨by decide +kernel, by decide +kernel⟩, List.mem_of_getElem? (i := 702) (by decide +kernel), List.mem_of_getElem? (i := 1001) (by decide +kernel), List.mem_of_getElem? (i := 1002) (by decide +kernel)⟩
def lw_privs_4 : List (MethodName × Nat) := [(⟨"TilesOfLawModel", "not2", "()I"⟩, 41), (⟨"TilesOfLawModel", "not3", "()I"⟩, 41), (⟨"TilesOfLawModel", "not4", "()I"⟩, 41), (⟨"TilesOfLawModel", "not5", "()I"⟩, 41), (⟨"TilesOfLawModel", "added5", "()I"⟩, 41), (⟨"TilesOfLawModel", "term5", "()I"⟩, 41), (⟨"TilesOfLawModel", "atom5", "()I"⟩, 41), (⟨"TilesOfLawModel", "isSign", "(I)Z"⟩, 41), (⟨"TilesOfLawModel", "name", "()I"⟩, 41), (⟨"TilesOfLawModel", "added4", "()I"⟩, 41), (⟨"TilesOfLawModel", "term4", "()I"⟩, 41), (⟨"TilesOfLawModel", "atom4", "()I"⟩, 41), (⟨"TilesOfLawModel", "either5", "()I"⟩, 41), (⟨"TilesOfLawModel", "both5", "()I"⟩, 41), (⟨"TilesOfLawModel", "added3", "()I"⟩, 41), (⟨"TilesOfLawModel", "term3", "()I"⟩, 41)]
theorem lw_r4 : ∀ q ∈ lw_privs_4, lw_okq q := List.forall_mem_cons.mpr ⟨lw_p48, List.forall_mem_cons.mpr ⟨lw_p49, List.forall_mem_cons.mpr ⟨lw_p50, List.forall_mem_cons.mpr ⟨lw_p51, List.forall_mem_cons.mpr ⟨lw_p52, List.forall_mem_cons.mpr ⟨lw_p53, List.forall_mem_cons.mpr ⟨lw_p54, List.forall_mem_cons.mpr ⟨lw_p55, List.forall_mem_cons.mpr ⟨lw_p56, List.forall_mem_cons.mpr ⟨lw_p57, List.forall_mem_cons.mpr ⟨lw_p58, List.forall_mem_cons.mpr ⟨lw_p59, List.forall_mem_cons.mpr ⟨lw_p60, List.forall_mem_cons.mpr ⟨lw_p61, List.forall_mem_cons.mpr ⟨lw_p62, List.forall_mem_cons.mpr ⟨lw_p63, fun _ h => absurd h List.not_mem_nil⟩⟩⟩⟩⟩⟩⟩⟩⟩⟩⟩⟩⟩⟩⟩⟩
theorem lw_p64 : lw_okq (⟨"TilesOfLawModel", "atom3", "()I"⟩, 41) := ⟨⟨by decide +kernel, by decide +kernel⟩, List.mem_of_getElem? (i := 702) (by decide +kernel), List.mem_of_getElem? (i := 1005) (by decide +kernel), List.mem_of_getElem? (i := 1006) (by decide +kernel)⟩
theorem lw_p65 : lw_okq (⟨"TilesOfLawModel", "either4", "()I"⟩, 41) := ⟨⟨by decide +kernel, by decide +kernel⟩, List.mem_of_getElem? (i := 702) (by decide +kernel), List.mem_of_getElem? (i := 1009) (by decide +kernel), List.mem_of_getElem? (i := 1010) (by decide +kernel)⟩
theorem lw_p66 : lw_okq (⟨"TilesOfLawModel", "both4", "()I"⟩, 41) := ⟨⟨by decide +kernel, by decide +kernel⟩, List.mem_of_getElem? (i := 702) (by decide +kernel), List.mem_of_getElem? (i := 1013) (by decide +kernel), List.mem_of_getElem? (i := 1014) (by decide +kernel)⟩
theorem lw_p67 : lw_okq (⟨"TilesOfLawModel", "added2", "()I"⟩, 41) := ⟨⟨by decide +kernel, by decide +kernel⟩, List.mem_of_getElem? (i := 702) (by decide +kernel), List.mem_of_getElem? (i := 1017) (by decide +kernel), List.mem_of_getElem? (i := 1018) (by decide +kernel)⟩
theorem lw_p68 : lw_okq (⟨"TilesOfLawModel", "term2", "()I"⟩, 41) := ⟨⟨by decide +kernel, by decide +kernel⟩, List.mem_of_getElem? (i := 702) (by decide +kernel), List.mem_of_getElem? (i := 1021) (by decide +kernel), List.mem_of_getElem? (i := 1022) (by decide +kernel)⟩
theorem lw_p69 : lw_okq (⟨"TilesOfLawModel", "atom2", "()I"⟩, 41) := ⟨⟨by decide +kernel, by decide +kernel⟩, List.mem_of_getElem? (i := 702) (by decide +kernel), List.mem_of_getElem? (i := 1025) (by decide +kernel), List.mem_of_getElem? (i := 1026) (by decide +kernel)⟩
theorem lw_p70 : lw_okq (⟨"TilesOfLawModel", "either3", "()I"⟩, 41) := ⟨⟨by decide +kernel, by decide +kernel⟩, List.mem_of_getElem? (i := 702) (by decide +kernel), List.mem_of_getElem? (i := 1029) (by decide +kernel), List.mem_of_getElem? (i := 1030) (by decide +kernel)⟩
theorem lw_p71 : lw_okq (⟨"TilesOfLawModel", "both3", "()I"⟩, 41) := ⟨⟨by decide +kernel, by decide +kernel⟩, List.mem_of_getElem? (i := 702) (by decide +kernel), List.mem_of_getElem? (i := 1033) (by decide +kernel), List.mem_of_getElem? (i := 1034) (by decide +kernel)⟩
theorem lw_p72 : lw_okq (⟨"TilesOfLawModel", "added1", "()I"⟩, 41) := ⟨⟨by decide +kernel, by decide +kernel⟩, List.mem_of_getElem? (i := 702) (by decide +kernel), List.mem_of_getElem? (i := 1037) (by decide +kernel), List.mem_of_getElem? (i := 1038) (by decide +kernel)⟩
theorem lw_p73 : lw_okq (⟨"TilesOfLawModel", "term1", "()I"⟩, 41) := ⟨⟨by decide +kernel, by decide +kernel⟩, List.mem_of_getElem? (i := 702) (by decide +kernel), List.mem_of_getElem? (i := 1041) (by decide +kernel), List.mem_of_getElem? (i := 1042) (by decide +kernel)⟩
theorem lw_p74 : lw_okq (⟨"TilesOfLawModel", "atom1", "()I"⟩, 41) := ⟨⟨by decide +kernel, by decide +kernel⟩, List.mem_of_getElem? (i := 702) (by decide +kernel), List.mem_of_getElem? (i := 1045) (by decide +kernel), List.mem_of_getElem? (i := 1046) (by decide +kernel)⟩
theorem lw_p75 : lw_okq (⟨"TilesOfLawModel", "either2", "()I"⟩, 41) := ⟨⟨by decide +kernel, by decide +kernel⟩, List.mem_of_getElem? (i := 702) (by decide +kernel), List.mem_of_getElem? (i := 1049) (by decide +kernel), List.mem_of_getElem? (i := 1050) (by decide +kernel)⟩
theorem lw_p76 : lw_okq (⟨"TilesOfLawModel", "both2", "()I"⟩, 41) := ⟨⟨by decide +kernel, by decide +kernel⟩, List.mem_of_getElem? (i := 702) (by decide +kernel), List.mem_of_getElem? (i := 1053) (by decide +kernel), List.mem_of_getElem? (i := 1054) (by decide +kernel)⟩
theorem lw_p77 : lw_okq (⟨"TilesOfLawModel", "added0", "()I"⟩, 41) := ⟨⟨by decide +kernel, by decide +kernel⟩, List.mem_of_getElem? (i := 702) (by decide +kernel), List.mem_of_getElem? (i := 1057) (by decide +kernel), List.mem_of_getElem? (i := 1058) (by decide +kernel)⟩
theorem lw_p78 : lw_okq (⟨"TilesOfLawModel", "term0", "()I"⟩, 41) := ⟨⟨by decide +kernel, by decide +kernel⟩, List.mem_of_getElem? (i := 702) (by decide +kernel), List.mem_of_getElem? (i := 1061) (by decide +kernel), List.mem_of_getElem? (i := 1062) (by decide +kernel)⟩
theorem lw_p79 : lw_okq (⟨"TilesOfLawModel", "atom0", "()I"⟩, 41) := ⟨⟨by decide +kernel, by decide +kernel⟩, List.mem_of_getElem? (i := 702) (by decide +kernel), List.mem_of_getElem? (i := 1065) (by decide +kernel), List.mem_of_getElem? (i := 1066) (by decide +kernel)⟩
def lw_privs_5 : List (MethodName × Nat) := [(⟨"TilesOfLawModel", "atom3", "()I"⟩, 41), (⟨"TilesOfLawModel", "either4", "()I"⟩, 41), (⟨"TilesOfLawModel", "both4", "()I"⟩, 41), (⟨"TilesOfLawModel", "added2", "()I"⟩, 41), (⟨"TilesOfLawModel", "term2", "()I"⟩, 41), (⟨"TilesOfLawModel", "atom2", "()I"⟩, 41), (⟨"TilesOfLawModel", "either3", "()I"⟩, 41), (⟨"TilesOfLawModel", "both3", "()I"⟩, 41), (⟨"TilesOfLawModel", "added1", "()I"⟩, 41), (⟨"TilesOfLawModel", "term1", "()I"⟩, 41), (⟨"TilesOfLawModel", "atom1", "()I"⟩, 41), (⟨"TilesOfLawModel", "either2", "()I"⟩, 41), (⟨"TilesOfLawModel", "both2", "()I"⟩, 41), (⟨"TilesOfLawModel", "added0", "()I"⟩, 41), (⟨"TilesOfLawModel", "term0", "()I"⟩, 41), (⟨"TilesOfLawModel", "atom0", "()I"⟩, 41)]
theorem lw_r5 : ∀ q ∈ lw_privs_5, lw_okq q := List.forall_mem_cons.mpr ⟨lw_p64, List.forall_mem_cons.mpr ⟨lw_p65, List.forall_mem_cons.mpr ⟨lw_p66, List.forall_mem_cons.mpr ⟨lw_p67, List.forall_mem_cons.mpr ⟨lw_p68, List.forall_mem_cons.mpr ⟨lw_p69, List.forall_mem_cons.mpr ⟨lw_p70, List.forall_mem_cons.mpr ⟨lw_p71, List.forall_mem_cons.mpr ⟨lw_p72, List.forall_mem_cons.mpr ⟨lw_p73, List.forall_mem_cons.mpr ⟨lw_p74, List.forall_mem_cons.mpr ⟨lw_p75, List.forall_mem_cons.mpr ⟨lw_p76, List.forall_mem_cons.mpr ⟨lw_p77, List.forall_mem_cons.mpr ⟨lw_p78, List.forall_mem_cons.mpr ⟨lw_p79, fun _ h => absurd h List.not_mem_nil⟩⟩⟩⟩⟩⟩⟩⟩⟩⟩⟩⟩⟩⟩⟩⟩
theorem lw_p80 : lw_okq (⟨"TilesOfLawModel", "either1", "()I"⟩, 41) := ⟨⟨by decide +kernel, by decide +kernel⟩, List.mem_of_getElem? (i := 702) (by decide +kernel), List.mem_of_getElem? (i := 1069) (by decide +kernel), List.mem_of_getElem? (i := 1070) (by decide +kernel)⟩
theorem lw_p81 : lw_okq (⟨"TilesOfLawModel", "both1", "()I"⟩, 41) := ⟨⟨by decide +kernel, by decide +kernel⟩, List.mem_of_getElem? (i := 702) (by decide +kernel), List.mem_of_getElem? (i := 1073) (by decide +kernel), List.mem_of_getElem? (i := 1074) (by decide +kernel)⟩
theorem lw_p82 : lw_okq (⟨"TilesOfLawModel", "tiresOf", "(I)I"⟩, 41) := ⟨⟨by decide +kernel, by decide +kernel⟩, List.mem_of_getElem? (i := 702) (by decide +kernel), List.mem_of_getElem? (i := 1080) (by decide +kernel), List.mem_of_getElem? (i := 1081) (by decide +kernel)⟩
theorem lw_p83 : lw_okq (⟨"TilesOfLawModel", "restsOf", "(I)I"⟩, 41) := ⟨⟨by decide +kernel, by decide +kernel⟩, List.mem_of_getElem? (i := 702) (by decide +kernel), List.mem_of_getElem? (i := 1084) (by decide +kernel), List.mem_of_getElem? (i := 1085) (by decide +kernel)⟩
theorem lw_p84 : lw_okq (⟨"TilesOfLawModel", "foundOf", "(I)I"⟩, 41) := ⟨⟨by decide +kernel, by decide +kernel⟩, List.mem_of_getElem? (i := 702) (by decide +kernel), List.mem_of_getElem? (i := 1088) (by decide +kernel), List.mem_of_getElem? (i := 1089) (by decide +kernel)⟩
theorem lw_p85 : lw_okq (⟨"TilesOfLawModel", "lays", "(III)V"⟩, 41) := ⟨⟨by decide +kernel, by decide +kernel⟩, List.mem_of_getElem? (i := 702) (by decide +kernel), List.mem_of_getElem? (i := 1095) (by decide +kernel), List.mem_of_getElem? (i := 1096) (by decide +kernel)⟩
theorem lw_p86 : lw_okq (⟨"TilesOfLawModel", "stoodOn", "()J"⟩, 41) := ⟨⟨by decide +kernel, by decide +kernel⟩, List.mem_of_getElem? (i := 702) (by decide +kernel), List.mem_of_getElem? (i := 1112) (by decide +kernel), List.mem_of_getElem? (i := 1113) (by decide +kernel)⟩
theorem lw_p87 : lw_okq (⟨"TilesOfLawModel", "leapFrom", "(III)I"⟩, 41) := ⟨⟨by decide +kernel, by decide +kernel⟩, List.mem_of_getElem? (i := 702) (by decide +kernel), List.mem_of_getElem? (i := 1134) (by decide +kernel), List.mem_of_getElem? (i := 1135) (by decide +kernel)⟩
theorem lw_p88 : lw_okq (⟨"TilesOfLawModel", "passes", "()I"⟩, 41) := ⟨⟨by decide +kernel, by decide +kernel⟩, List.mem_of_getElem? (i := 702) (by decide +kernel), List.mem_of_getElem? (i := 1148) (by decide +kernel), List.mem_of_getElem? (i := 1149) (by decide +kernel)⟩
theorem lw_p89 : lw_okq (⟨"TilesOfLawModel", "laysAside", "()V"⟩, 41) := ⟨⟨by decide +kernel, by decide +kernel⟩, List.mem_of_getElem? (i := 702) (by decide +kernel), List.mem_of_getElem? (i := 1158) (by decide +kernel), List.mem_of_getElem? (i := 1159) (by decide +kernel)⟩
theorem lw_p90 : lw_okq (⟨"TilesOfLawModel", "goes", "(I)V"⟩, 41) := ⟨⟨by decide +kernel, by decide +kernel⟩, List.mem_of_getElem? (i := 702) (by decide +kernel), List.mem_of_getElem? (i := 1162) (by decide +kernel), List.mem_of_getElem? (i := 1163) (by decide +kernel)⟩
theorem lw_p91 : lw_okq (⟨"TilesOfLawModel", "foundMany", "(I)I"⟩, 41) := ⟨⟨by decide +kernel, by decide +kernel⟩, List.mem_of_getElem? (i := 702) (by decide +kernel), List.mem_of_getElem? (i := 1166) (by decide +kernel), List.mem_of_getElem? (i := 1167) (by decide +kernel)⟩
theorem lw_p92 : lw_okq (⟨"TilesOfLawModel", "laysBack", "()V"⟩, 41) := ⟨⟨by decide +kernel, by decide +kernel⟩, List.mem_of_getElem? (i := 702) (by decide +kernel), List.mem_of_getElem? (i := 1170) (by decide +kernel), List.mem_of_getElem? (i := 1171) (by decide +kernel)⟩
theorem lw_p93 : lw_okq (⟨"TilesOfLawModel", "foundBehind", "(II)I"⟩, 41) := ⟨⟨by decide +kernel, by decide +kernel⟩, List.mem_of_getElem? (i := 702) (by decide +kernel), List.mem_of_getElem? (i := 1178) (by decide +kernel), List.mem_of_getElem? (i := 1179) (by decide +kernel)⟩
theorem lw_p94 : lw_okq (⟨"TilesOfLawModel", "areTwo", "(II)Z"⟩, 41) := ⟨⟨by decide +kernel, by decide +kernel⟩, List.mem_of_getElem? (i := 702) (by decide +kernel), List.mem_of_getElem? (i := 1186) (by decide +kernel), List.mem_of_getElem? (i := 1187) (by decide +kernel)⟩
theorem lw_p95 : lw_okq (⟨"TilesOfLawModel", "reachedBy", "(II)J"⟩, 41) := ⟨⟨by decide +kernel, by decide +kernel⟩, List.mem_of_getElem? (i := 702) (by decide +kernel), List.mem_of_getElem? (i := 1194) (by decide +kernel), List.mem_of_getElem? (i := 1195) (by decide +kernel)⟩
def lw_privs_6 : List (MethodName × Nat) := [(⟨"TilesOfLawModel", "either1", "()I"⟩, 41), (⟨"TilesOfLawModel", "both1", "()I"⟩, 41), (⟨"TilesOfLawModel", "tiresOf", "(I)I"⟩, 41), (⟨"TilesOfLawModel", "restsOf", "(I)I"⟩, 41), (⟨"TilesOfLawModel", "foundOf", "(I)I"⟩, 41), (⟨"TilesOfLawModel", "lays", "(III)V"⟩, 41), (⟨"TilesOfLawModel", "stoodOn", "()J"⟩, 41), (⟨"TilesOfLawModel", "leapFrom", "(III)I"⟩, 41), (⟨"TilesOfLawModel", "passes", "()I"⟩, 41), (⟨"TilesOfLawModel", "laysAside", "()V"⟩, 41), (⟨"TilesOfLawModel", "goes", "(I)V"⟩, 41), (⟨"TilesOfLawModel", "foundMany", "(I)I"⟩, 41), (⟨"TilesOfLawModel", "laysBack", "()V"⟩, 41), (⟨"TilesOfLawModel", "foundBehind", "(II)I"⟩, 41), (⟨"TilesOfLawModel", "areTwo", "(II)Z"⟩, 41), (⟨"TilesOfLawModel", "reachedBy", "(II)J"⟩, 41)]
theorem lw_r6 : ∀ q ∈ lw_privs_6, lw_okq q := List.forall_mem_cons.mpr ⟨lw_p80, List.forall_mem_cons.mpr ⟨lw_p81, List.forall_mem_cons.mpr ⟨lw_p82, List.forall_mem_cons.mpr ⟨lw_p83, List.forall_mem_cons.mpr ⟨lw_p84, List.forall_mem_cons.mpr ⟨lw_p85, List.forall_mem_cons.mpr ⟨lw_p86, List.forall_mem_cons.mpr ⟨lw_p87, List.forall_mem_cons.mpr ⟨lw_p88, List.forall_mem_cons.mpr ⟨lw_p89, List.forall_mem_cons.mpr ⟨lw_p90, List.forall_mem_cons.mpr ⟨lw_p91, List.forall_mem_cons.mpr ⟨lw_p92, List.forall_mem_cons.mpr ⟨lw_p93, List.forall_mem_cons.mpr ⟨lw_p94, List.forall_mem_cons.mpr ⟨lw_p95, fun _ h => absurd h List.not_mem_nil⟩⟩⟩⟩⟩⟩⟩⟩⟩⟩⟩⟩⟩⟩⟩⟩
theorem lw_p96 : lw_okq (⟨"TilesOfLawModel", "tries", "(II)V"⟩, 41) := ⟨⟨by decide +kernel, by decide +kernel⟩, List.mem_of_getElem? (i := 702) (by decide +kernel), List.mem_of_getElem? (i := 1207) (by decide +kernel), List.mem_of_getElem? (i := 1208) (by decide +kernel)⟩
theorem lw_p97 : lw_okq (⟨"TilesOfLawModel", "triesTile", "(IIII)V"⟩, 41) := ⟨⟨by decide +kernel, by decide +kernel⟩, List.mem_of_getElem? (i := 702) (by decide +kernel), List.mem_of_getElem? (i := 1211) (by decide +kernel), List.mem_of_getElem? (i := 1212) (by decide +kernel)⟩
theorem lw_p98 : lw_okq (⟨"TilesOfLawModel", "firstOther", "(II)I"⟩, 41) := ⟨⟨by decide +kernel, by decide +kernel⟩, List.mem_of_getElem? (i := 702) (by decide +kernel), List.mem_of_getElem? (i := 1230) (by decide +kernel), List.mem_of_getElem? (i := 1231) (by decide +kernel)⟩
theorem lw_p99 : lw_okq (⟨"TilesOfLawModel", "likeSet", "(I)I"⟩, 41) := ⟨⟨by decide +kernel, by decide +kernel⟩, List.mem_of_getElem? (i := 702) (by decide +kernel), List.mem_of_getElem? (i := 1234) (by decide +kernel), List.mem_of_getElem? (i := 1235) (by decide +kernel)⟩
theorem lw_p100 : lw_okq (⟨"TilesOfLawModel", "onDrawn", "(III)I"⟩, 41) := ⟨⟨by decide +kernel, by decide +kernel⟩, List.mem_of_getElem? (i := 702) (by decide +kernel), List.mem_of_getElem? (i := 1254) (by decide +kernel), List.mem_of_getElem? (i := 1255) (by decide +kernel)⟩
def lw_privs_7 : List (MethodName × Nat) := [(⟨"TilesOfLawModel", "tries", "(II)V"⟩, 41), (⟨"TilesOfLawModel", "triesTile", "(IIII)V"⟩, 41), (⟨"TilesOfLawModel", "firstOther", "(II)I"⟩, 41), (⟨"TilesOfLawModel", "likeSet", "(I)I"⟩, 41), (⟨"TilesOfLawModel", "onDrawn", "(III)I"⟩, 41)]
theorem lw_r7 : ∀ q ∈ lw_privs_7, lw_okq q := List.forall_mem_cons.mpr ⟨lw_p96, List.forall_mem_cons.mpr ⟨lw_p97, List.forall_mem_cons.mpr ⟨lw_p98, List.forall_mem_cons.mpr ⟨lw_p99, List.forall_mem_cons.mpr ⟨lw_p100, fun _ h => absurd h List.not_mem_nil⟩⟩⟩⟩⟩
def lw_privs : List (MethodName × Nat) := lw_privs_1 ++ (lw_privs_2 ++ (lw_privs_3 ++ (lw_privs_4 ++ (lw_privs_5 ++ (lw_privs_6 ++ (lw_privs_7))))))
def lw_tbl : List Cond := k2_sels lw_privs ++ tables_1
theorem lw_privs_ok : ∀ q ∈ lw_privs, lw_okq q := by
  show ∀ q ∈ lw_privs_1 ++ (lw_privs_2 ++ (lw_privs_3 ++ (lw_privs_4 ++ (lw_privs_5 ++ (lw_privs_6 ++ (lw_privs_7)))))), lw_okq q
  exact List.forall_mem_append.mpr ⟨lw_r1, List.forall_mem_append.mpr ⟨lw_r2, List.forall_mem_append.mpr ⟨lw_r3, List.forall_mem_append.mpr ⟨lw_r4, List.forall_mem_append.mpr ⟨lw_r5, List.forall_mem_append.mpr ⟨lw_r6, lw_r7⟩⟩⟩⟩⟩⟩

/-! ===== BEGIN words of one list among another's, by their places ===== -/
theorem goodIn_r {big : List Cond} (ws : List Cond) (ps : List Nat) (hp : ws = ps.filterMap (fun i => big[i]?)) (h : ws.all goodWord = true) : GoodIn big ws := by
  intro w hw
  have h1 := List.all_eq_true.mp h w hw
  rw [hp] at hw
  obtain ⟨i, -, hi⟩ := List.mem_filterMap.mp hw
  have hm : w ∈ big := by first | exact List.mem_of_getElem? hi | exact List.getElem?_mem hi
  exact ⟨hm, good_of_word h1⟩
theorem goodIn_app {big a b : List Cond} (ha : GoodIn big a) (hb : GoodIn big b) : GoodIn big (a ++ b) := fun w h => (List.mem_append.mp h).elim (ha w) (hb w)
theorem goodIn_ca {big a b : List Cond} {c : Cond} (ha : GoodIn big (c :: a)) (hb : GoodIn big b) : GoodIn big (c :: (a ++ b)) := fun w h => (List.mem_cons.mp h).elim (fun e => ha w (List.mem_cons.mpr (Or.inl e))) (fun h => (List.mem_append.mp h).elim (fun h => ha w (List.mem_cons.mpr (Or.inr h))) (hb w))
theorem goodIn_sub {big ws : List Cond} (hm : ∀ w ∈ ws, w ∈ big) (h : ws.all goodWord = true) : GoodIn big ws := fun w hw => ⟨hm w hw, good_of_word (List.all_eq_true.mp h w hw)⟩
/-! ===== END ===== -/

/-! ===== BEGIN printed: names, fields, word lists, decode rows ===== -/
def RX0 : String := "TilesOfLaw$Floor"
def TX0 : u_T := fun k => match k with
  | 0 => ("TilesOfLaw$Floor", "red", "J", false)
  | 1 => ("TilesOfLaw$Floor", "hollow", "J", false)
  | 2 => ("TilesOfLaw$Floor", "minute", "I", false)
  | 3 => ("TilesOfLaw$Floor", "parties", "I", false)
  | 4 => ("TilesOfLaw$Floor", "rule", "I", false)
  | 5 => ("TilesOfLaw$Floor", "kind", "[I", true)
  | 6 => ("TilesOfLaw$Floor", "number", "[I", true)
  | 7 => ("TilesOfLaw$Floor", "on", "[I", true)
  | _ => ("TilesOfLaw$Floor", "weary", "[I", true)
def tyX0 : Nat → FieldType := fun k => match k with
  | 0 => .long
  | 1 => .long
  | 2 => .int
  | 3 => .int
  | 4 => .int
  | 5 => .array .int
  | 6 => .array .int
  | 7 => .array .int
  | _ => .array .int
abbrev wsX00 : List Cond := u_ws RX0 TX0 9
theorem nmX0 : ∀ a, a < 9 → ∀ b, b < 9 → a ≠ b → (TX0 a).2.1 ≠ (TX0 b).2.1 := by decide +kernel
theorem tyX0_ok : ∀ k, k < 9 → parseFieldDescriptor (TX0 k).2.2.1 = some (tyX0 k) := by decide +kernel
abbrev cX0_init : ByteArray := prog_2_method_1_code
def yX0_init : MethodName := ⟨RX0, "<init>", "()V"⟩
abbrev cX0_become : ByteArray := prog_2_method_2_code
def yX0_become : MethodName := ⟨RX0, "become", "(LTilesOfLaw$Floor;)V"⟩
abbrev cX0_isRed : ByteArray := prog_2_method_3_code
def yX0_isRed : MethodName := ⟨RX0, "isRed", "(I)Z"⟩
abbrev cX0_isHollow : ByteArray := prog_2_method_4_code
def yX0_isHollow : MethodName := ⟨RX0, "isHollow", "(I)Z"⟩
abbrev cX0_whoIsOn : ByteArray := prog_2_method_5_code
def yX0_whoIsOn : MethodName := ⟨RX0, "whoIsOn", "(I)I"⟩
abbrev cX0_stoodOn : ByteArray := prog_2_method_6_code
def yX0_stoodOn : MethodName := ⟨RX0, "stoodOn", "()J"⟩
abbrev cX0_isFoundBy : ByteArray := prog_2_method_7_code
def yX0_isFoundBy : MethodName := ⟨RX0, "isFoundBy", "(I)I"⟩
abbrev cX0_foundOf : ByteArray := prog_2_method_8_code
def yX0_foundOf : MethodName := ⟨RX0, "foundOf", "(I)I"⟩
abbrev cX0_howManyFound : ByteArray := prog_2_method_9_code
def yX0_howManyFound : MethodName := ⟨RX0, "howManyFound", "(I)I"⟩
abbrev cX0_landing : ByteArray := prog_2_method_10_code
def yX0_landing : MethodName := ⟨RX0, "landing", "(III)I"⟩
abbrev cX0_leapsBy : ByteArray := prog_2_method_11_code
def yX0_leapsBy : MethodName := ⟨RX0, "leapsBy", "(II)Z"⟩
abbrev cX0_aLeapFurther : ByteArray := prog_2_method_12_code
def yX0_aLeapFurther : MethodName := ⟨RX0, "aLeapFurther", "(IJ)J"⟩
abbrev cX0_whereDrawn : ByteArray := prog_2_method_13_code
def yX0_whereDrawn : MethodName := ⟨RX0, "whereDrawn", "(III)I"⟩
abbrev cX0_tires : ByteArray := prog_2_method_14_code
def yX0_tires : MethodName := ⟨RX0, "tires", "(II)I"⟩
abbrev cX0_rests : ByteArray := prog_2_method_15_code
def yX0_rests : MethodName := ⟨RX0, "rests", "(II)I"⟩
abbrev cX0_named : ByteArray := prog_2_method_16_code
def yX0_named : MethodName := ⟨RX0, "named", "(II)I"⟩
def RX1 : String := "TilesOfLaw$Law"
def TX1 : u_T := fun k => match k with
  | 0 => ("TilesOfLaw$Law", "texts", "[LTilesOfLaw$Text;", true)
  | 1 => ("TilesOfLaw$Law", "stack", "[I", true)
  | _ => ("TilesOfLaw$Law", "size", "I", false)
def tyX1 : Nat → FieldType := fun k => match k with
  | 0 => .array (.object "TilesOfLaw$Text")
  | 1 => .array .int
  | _ => .int
abbrev wsX10 : List Cond := u_ws RX1 TX1 3
theorem nmX1 : ∀ a, a < 3 → ∀ b, b < 3 → a ≠ b → (TX1 a).2.1 ≠ (TX1 b).2.1 := by decide +kernel
theorem tyX1_ok : ∀ k, k < 3 → parseFieldDescriptor (TX1 k).2.2.1 = some (tyX1 k) := by decide +kernel
abbrev cX1_init : ByteArray := prog_3_method_1_code
def yX1_init : MethodName := ⟨RX1, "<init>", "()V"⟩
abbrev cX1_add : ByteArray := prog_3_method_2_code
def yX1_add : MethodName := ⟨RX1, "add", "(LTilesOfLaw$Text;)I"⟩
abbrev cX1_passMinutes : ByteArray := prog_3_method_3_code
def yX1_passMinutes : MethodName := ⟨RX1, "passMinutes", "(LTilesOfLaw$Floor;II)I"⟩
abbrev cX1_passOne : ByteArray := prog_3_method_4_code
def yX1_passOne : MethodName := ⟨RX1, "passOne", "(LTilesOfLaw$Floor;IZ)Z"⟩
abbrev cX1_wayOf : ByteArray := prog_3_method_5_code
def yX1_wayOf : MethodName := ⟨RX1, "wayOf", "(LTilesOfLaw$Floor;I)I"⟩
abbrev cX1_tiresOf : ByteArray := prog_3_method_6_code
def yX1_tiresOf : MethodName := ⟨RX1, "tiresOf", "(LTilesOfLaw$Floor;I)I"⟩
abbrev cX1_restsOf : ByteArray := prog_3_method_7_code
def yX1_restsOf : MethodName := ⟨RX1, "restsOf", "(LTilesOfLaw$Floor;I)I"⟩
abbrev cX1_value : ByteArray := prog_3_method_8_code
def yX1_value : MethodName := ⟨RX1, "value", "(LTilesOfLaw$Floor;II)I"⟩
abbrev cX1_joined : ByteArray := prog_3_method_9_code
def yX1_joined : MethodName := ⟨RX1, "joined", "(III)I"⟩
abbrev cX1_truth : ByteArray := prog_3_method_10_code
def yX1_truth : MethodName := ⟨RX1, "truth", "(Z)I"⟩
def RX2 : String := "TilesOfLaw$Reader"
def TX2 : u_T := fun k => match k with
  | 0 => ("TilesOfLaw$Reader", "tape", "[I", true)
  | 1 => ("TilesOfLaw$Reader", "code", "[I", true)
  | 2 => ("TilesOfLaw$Reader", "size", "I", false)
  | 3 => ("TilesOfLaw$Reader", "fault", "I", false)
  | 4 => ("TilesOfLaw$Reader", "token", "I", false)
  | 5 => ("TilesOfLaw$Reader", "tokenAt", "I", false)
  | 6 => ("TilesOfLaw$Reader", "next", "I", false)
  | 7 => ("TilesOfLaw$Reader", "number", "I", false)
  | _ => ("TilesOfLaw$Reader", "written", "I", false)
def tyX2 : Nat → FieldType := fun k => match k with
  | 0 => .array .int
  | 1 => .array .int
  | 2 => .int
  | 3 => .int
  | 4 => .int
  | 5 => .int
  | 6 => .int
  | 7 => .int
  | _ => .int
abbrev wsX20 : List Cond := u_ws RX2 TX2 9
theorem nmX2 : ∀ a, a < 9 → ∀ b, b < 9 → a ≠ b → (TX2 a).2.1 ≠ (TX2 b).2.1 := by decide +kernel
theorem tyX2_ok : ∀ k, k < 9 → parseFieldDescriptor (TX2 k).2.2.1 = some (tyX2 k) := by decide +kernel
abbrev cX2_init : ByteArray := prog_4_method_1_code
def yX2_init : MethodName := ⟨RX2, "<init>", "()V"⟩
abbrev cX2_takeIn : ByteArray := prog_4_method_2_code
def yX2_takeIn : MethodName := ⟨RX2, "takeIn", "(I)Z"⟩
abbrev cX2_clear : ByteArray := prog_4_method_3_code
def yX2_clear : MethodName := ⟨RX2, "clear", "()V"⟩
abbrev cX2_readText : ByteArray := prog_4_method_4_code
def yX2_readText : MethodName := ⟨RX2, "readText", "()LTilesOfLaw$Text;"⟩
abbrev cX2_readPart : ByteArray := prog_4_method_5_code
def yX2_readPart : MethodName := ⟨RX2, "readPart", "(I)I"⟩
abbrev cX2_readE : ByteArray := prog_4_method_6_code
def yX2_readE : MethodName := ⟨RX2, "readE", "(I)V"⟩
abbrev cX2_readAnd : ByteArray := prog_4_method_7_code
def yX2_readAnd : MethodName := ⟨RX2, "readAnd", "(I)V"⟩
abbrev cX2_readNot : ByteArray := prog_4_method_8_code
def yX2_readNot : MethodName := ⟨RX2, "readNot", "(I)V"⟩
abbrev cX2_readSum : ByteArray := prog_4_method_9_code
def yX2_readSum : MethodName := ⟨RX2, "readSum", "(I)V"⟩
abbrev cX2_readTerm : ByteArray := prog_4_method_10_code
def yX2_readTerm : MethodName := ⟨RX2, "readTerm", "(I)V"⟩
abbrev cX2_readOne : ByteArray := prog_4_method_11_code
def yX2_readOne : MethodName := ⟨RX2, "readOne", "(I)V"⟩
abbrev cX2_opens : ByteArray := prog_4_method_12_code
def yX2_opens : MethodName := ⟨RX2, "opens", "(I)Z"⟩
abbrev cX2_need : ByteArray := prog_4_method_13_code
def yX2_need : MethodName := ⟨RX2, "need", "(I)V"⟩
abbrev cX2_refuse : ByteArray := prog_4_method_14_code
def yX2_refuse : MethodName := ⟨RX2, "refuse", "()V"⟩
abbrev cX2_write : ByteArray := prog_4_method_15_code
def yX2_write : MethodName := ⟨RX2, "write", "(I)V"⟩
abbrev cX2_advance : ByteArray := prog_4_method_16_code
def yX2_advance : MethodName := ⟨RX2, "advance", "()V"⟩
abbrev cX2_readDigits : ByteArray := prog_4_method_17_code
def yX2_readDigits : MethodName := ⟨RX2, "readDigits", "()V"⟩
abbrev cX2_wordRead : ByteArray := prog_4_method_18_code
def yX2_wordRead : MethodName := ⟨RX2, "wordRead", "()I"⟩
abbrev cX2_spells : ByteArray := prog_4_method_19_code
def yX2_spells : MethodName := ⟨RX2, "spells", "(Ljava/lang/String;)Z"⟩
abbrev cX2_isLetter : ByteArray := prog_4_method_20_code
def yX2_isLetter : MethodName := ⟨RX2, "isLetter", "(I)Z"⟩
abbrev cX2_isDigit : ByteArray := prog_4_method_21_code
def yX2_isDigit : MethodName := ⟨RX2, "isDigit", "(I)Z"⟩
abbrev cX2_isSign : ByteArray := prog_4_method_22_code
def yX2_isSign : MethodName := ⟨RX2, "isSign", "(I)Z"⟩
def RX3 : String := "TilesOfLaw$Sheet"
def TX3 : u_T := fun k => match k with
  | 0 => ("TilesOfLaw$Sheet", "items", "[I", true)
  | 1 => ("TilesOfLaw$Sheet", "sort", "I", false)
  | _ => ("TilesOfLaw$Sheet", "size", "I", false)
def tyX3 : Nat → FieldType := fun k => match k with
  | 0 => .array .int
  | 1 => .int
  | _ => .int
abbrev wsX30 : List Cond := u_ws RX3 TX3 3
theorem nmX3 : ∀ a, a < 3 → ∀ b, b < 3 → a ≠ b → (TX3 a).2.1 ≠ (TX3 b).2.1 := by decide +kernel
theorem tyX3_ok : ∀ k, k < 3 → parseFieldDescriptor (TX3 k).2.2.1 = some (tyX3 k) := by decide +kernel
abbrev cX3_init : ByteArray := prog_5_method_1_code
def yX3_init : MethodName := ⟨RX3, "<init>", "()V"⟩
abbrev cX3_become : ByteArray := prog_5_method_2_code
def yX3_become : MethodName := ⟨RX3, "become", "(II)V"⟩
abbrev cX3_has : ByteArray := prog_5_method_3_code
def yX3_has : MethodName := ⟨RX3, "has", "(II)Z"⟩
abbrev cX3_put : ByteArray := prog_5_method_4_code
def yX3_put : MethodName := ⟨RX3, "put", "(II)Z"⟩
def RX4 : String := "TilesOfLaw$Text"
def TX4 : u_T := fun k => match k with
  | 0 => ("TilesOfLaw$Text", "code", "[I", true)
  | 1 => ("TilesOfLaw$Text", "turnsEnd", "I", true)
  | _ => ("TilesOfLaw$Text", "tiresEnd", "I", true)
def tyX4 : Nat → FieldType := fun k => match k with
  | 0 => .array .int
  | 1 => .int
  | _ => .int
abbrev wsX40 : List Cond := u_ws RX4 TX4 3
theorem nmX4 : ∀ a, a < 3 → ∀ b, b < 3 → a ≠ b → (TX4 a).2.1 ≠ (TX4 b).2.1 := by decide +kernel
theorem tyX4_ok : ∀ k, k < 3 → parseFieldDescriptor (TX4 k).2.2.1 = some (tyX4 k) := by decide +kernel
abbrev cX4_init : ByteArray := prog_6_method_1_code
def yX4_init : MethodName := ⟨RX4, "<init>", "([III)V"⟩
abbrev cX4_start : ByteArray := prog_6_method_2_code
def yX4_start : MethodName := ⟨RX4, "start", "(I)I"⟩
abbrev cX4_end : ByteArray := prog_6_method_3_code
def yX4_end : MethodName := ⟨RX4, "end", "(I)I"⟩
def RX5 : String := "TilesOfLaw"
def TX5 : u_T := fun k => match k with
  | 0 => ("TilesOfLaw", "now", "LTilesOfLaw$Floor;", true)
  | 1 => ("TilesOfLaw", "thought", "LTilesOfLaw$Floor;", true)
  | 2 => ("TilesOfLaw", "later", "LTilesOfLaw$Floor;", true)
  | 3 => ("TilesOfLaw", "kept", "LTilesOfLaw$Floor;", true)
  | 4 => ("TilesOfLaw", "law", "LTilesOfLaw$Law;", true)
  | 5 => ("TilesOfLaw", "reader", "LTilesOfLaw$Reader;", true)
  | 6 => ("TilesOfLaw", "sheets", "[LTilesOfLaw$Sheet;", true)
  | _ => ("TilesOfLaw", "hasImage", "Z", false)
def tyX5 : Nat → FieldType := fun k => match k with
  | 0 => .object "TilesOfLaw$Floor"
  | 1 => .object "TilesOfLaw$Floor"
  | 2 => .object "TilesOfLaw$Floor"
  | 3 => .object "TilesOfLaw$Floor"
  | 4 => .object "TilesOfLaw$Law"
  | 5 => .object "TilesOfLaw$Reader"
  | 6 => .array (.object "TilesOfLaw$Sheet")
  | _ => .boolean
abbrev wsX50 : List Cond := u_ws RX5 TX5 8
theorem nmX5 : ∀ a, a < 8 → ∀ b, b < 8 → a ≠ b → (TX5 a).2.1 ≠ (TX5 b).2.1 := by decide +kernel
theorem tyX5_ok : ∀ k, k < 8 → parseFieldDescriptor (TX5 k).2.2.1 = some (tyX5 k) := by decide +kernel
abbrev cX5_init : ByteArray := prog_1_method_1_code
def yX5_init : MethodName := ⟨RX5, "<init>", "()V"⟩
abbrev cX5_set : ByteArray := prog_1_method_2_code
def yX5_set : MethodName := ⟨RX5, "set", "(III)I"⟩
abbrev cX5_canSet : ByteArray := prog_1_method_3_code
def yX5_canSet : MethodName := ⟨RX5, "canSet", "(III)Z"⟩
abbrev cX5_party : ByteArray := prog_1_method_4_code
def yX5_party : MethodName := ⟨RX5, "party", "(III)I"⟩
abbrev cX5_told : ByteArray := prog_1_method_5_code
def yX5_told : MethodName := ⟨RX5, "told", "(II)I"⟩
abbrev cX5_toldOfTile : ByteArray := prog_1_method_6_code
def yX5_toldOfTile : MethodName := ⟨RX5, "toldOfTile", "(II)I"⟩
abbrev cX5_toldOfParty : ByteArray := prog_1_method_7_code
def yX5_toldOfParty : MethodName := ⟨RX5, "toldOfParty", "(II)I"⟩
abbrev cX5_leap : ByteArray := prog_1_method_8_code
def yX5_leap : MethodName := ⟨RX5, "leap", "(II)I"⟩
abbrev cX5_floor : ByteArray := prog_1_method_9_code
def yX5_floor : MethodName := ⟨RX5, "floor", "(I)J"⟩
abbrev cX5_feed : ByteArray := prog_1_method_10_code
def yX5_feed : MethodName := ⟨RX5, "feed", "(I)I"⟩
abbrev cX5_text : ByteArray := prog_1_method_11_code
def yX5_text : MethodName := ⟨RX5, "text", "()I"⟩
abbrev cX5_force : ByteArray := prog_1_method_12_code
def yX5_force : MethodName := ⟨RX5, "force", "(I)I"⟩
abbrev cX5_minute : ByteArray := prog_1_method_13_code
def yX5_minute : MethodName := ⟨RX5, "minute", "()I"⟩
abbrev cX5_run : ByteArray := prog_1_method_14_code
def yX5_run : MethodName := ⟨RX5, "run", "(III)I"⟩
abbrev cX5_call : ByteArray := prog_1_method_15_code
def yX5_call : MethodName := ⟨RX5, "call", "(III)I"⟩
abbrev cX5_meet : ByteArray := prog_1_method_16_code
def yX5_meet : MethodName := ⟨RX5, "meet", "(II)I"⟩
abbrev cX5_reached : ByteArray := prog_1_method_17_code
def yX5_reached : MethodName := ⟨RX5, "reached", "(II)J"⟩
abbrev cX5_fewest : ByteArray := prog_1_method_18_code
def yX5_fewest : MethodName := ⟨RX5, "fewest", "(II)I"⟩
abbrev cX5_best : ByteArray := prog_1_method_19_code
def yX5_best : MethodName := ⟨RX5, "best", "(III)I"⟩
abbrev cX5_foundWithOneStill : ByteArray := prog_1_method_20_code
def yX5_foundWithOneStill : MethodName := ⟨RX5, "foundWithOneStill", "(III)I"⟩
abbrev cX5_foundWithRed : ByteArray := prog_1_method_21_code
def yX5_foundWithRed : MethodName := ⟨RX5, "foundWithRed", "(II)I"⟩
abbrev cX5_foundWithHollow : ByteArray := prog_1_method_22_code
def yX5_foundWithHollow : MethodName := ⟨RX5, "foundWithHollow", "(III)I"⟩
abbrev cX5_mean : ByteArray := prog_1_method_23_code
def yX5_mean : MethodName := ⟨RX5, "mean", "(I)J"⟩
abbrev cX5_tells : ByteArray := prog_1_method_24_code
def yX5_tells : MethodName := ⟨RX5, "tells", "(III)I"⟩
abbrev cX5_wearyTold : ByteArray := prog_1_method_25_code
def yX5_wearyTold : MethodName := ⟨RX5, "wearyTold", "(LTilesOfLaw$Sheet;II)I"⟩
abbrev cX5_bitsTold : ByteArray := prog_1_method_26_code
def yX5_bitsTold : MethodName := ⟨RX5, "bitsTold", "(LTilesOfLaw$Sheet;II)I"⟩
abbrev cX5_firstOtherwise : ByteArray := prog_1_method_27_code
def yX5_firstOtherwise : MethodName := ⟨RX5, "firstOtherwise", "(LTilesOfLaw$Sheet;I)I"⟩
abbrev cX5_stood : ByteArray := prog_1_method_28_code
def yX5_stood : MethodName := ⟨RX5, "stood", "(II)J"⟩
abbrev cX5_film : ByteArray := prog_1_method_29_code
def yX5_film : MethodName := ⟨RX5, "film", "(III)I"⟩
abbrev cX5_drawn : ByteArray := prog_1_method_30_code
def yX5_drawn : MethodName := ⟨RX5, "drawn", "(III)I"⟩
abbrev cX5_chance : ByteArray := prog_1_method_31_code
def yX5_chance : MethodName := ⟨RX5, "chance", "(IIII)J"⟩
abbrev cX5_image : ByteArray := prog_1_method_32_code
def yX5_image : MethodName := ⟨RX5, "image", "()I"⟩
abbrev cX5_back : ByteArray := prog_1_method_33_code
def yX5_back : MethodName := ⟨RX5, "back", "()I"⟩
abbrev cX5_count : ByteArray := prog_1_method_34_code
def yX5_count : MethodName := ⟨RX5, "count", "(I)I"⟩
abbrev cX5_sheet : ByteArray := prog_1_method_35_code
def yX5_sheet : MethodName := ⟨RX5, "sheet", "(III)I"⟩
abbrev cX5_cell : ByteArray := prog_1_method_36_code
def yX5_cell : MethodName := ⟨RX5, "cell", "(III)I"⟩
abbrev cX5_copy : ByteArray := prog_1_method_37_code
def yX5_copy : MethodName := ⟨RX5, "copy", "(IIIII)I"⟩
abbrev cX5_suits : ByteArray := prog_1_method_38_code
def yX5_suits : MethodName := ⟨RX5, "suits", "(IIII)I"⟩
abbrev cX5_taken : ByteArray := prog_1_method_39_code
def yX5_taken : MethodName := ⟨RX5, "taken", "(II)I"⟩
abbrev cX5_isWithin : ByteArray := prog_1_method_40_code
def yX5_isWithin : MethodName := ⟨RX5, "isWithin", "(II)Z"⟩
abbrev cX5_isTile : ByteArray := prog_1_method_41_code
def yX5_isTile : MethodName := ⟨RX5, "isTile", "(I)Z"⟩
abbrev cX5_isKind : ByteArray := prog_1_method_42_code
def yX5_isKind : MethodName := ⟨RX5, "isKind", "(I)Z"⟩
abbrev cX5_isIn : ByteArray := prog_1_method_43_code
def yX5_isIn : MethodName := ⟨RX5, "isIn", "(JI)Z"⟩
abbrev cX5_isParty : ByteArray := prog_1_method_44_code
def yX5_isParty : MethodName := ⟨RX5, "isParty", "(I)Z"⟩
abbrev cX5_isText : ByteArray := prog_1_method_45_code
def yX5_isText : MethodName := ⟨RX5, "isText", "(I)Z"⟩
abbrev cX5_sheetAt : ByteArray := prog_1_method_46_code
def yX5_sheetAt : MethodName := ⟨RX5, "sheetAt", "(I)LTilesOfLaw$Sheet;"⟩
abbrev cX5_bounded : ByteArray := prog_1_method_47_code
def yX5_bounded : MethodName := ⟨RX5, "bounded", "(III)I"⟩
abbrev cX5_inLowestTerms : ByteArray := prog_1_method_48_code
def yX5_inLowestTerms : MethodName := ⟨RX5, "inLowestTerms", "(III)J"⟩
def RX6 : String := "TilesOfLawModel"
def TX6 : u_T := fun k => match k with
  | 0 => ("TilesOfLawModel", "thrown", "I", false)
  | 1 => ("TilesOfLawModel", "texts", "[I", true)
  | 2 => ("TilesOfLawModel", "textSize", "[I", true)
  | 3 => ("TilesOfLawModel", "textCount", "I", false)
  | 4 => ("TilesOfLawModel", "rule", "I", false)
  | 5 => ("TilesOfLawModel", "tape", "[I", true)
  | 6 => ("TilesOfLawModel", "taped", "I", false)
  | 7 => ("TilesOfLawModel", "minuteNow", "I", false)
  | 8 => ("TilesOfLawModel", "red", "J", false)
  | 9 => ("TilesOfLawModel", "hollow", "J", false)
  | 10 => ("TilesOfLawModel", "rows", "[I", true)
  | 11 => ("TilesOfLawModel", "many", "I", false)
  | 12 => ("TilesOfLawModel", "standing", "I", false)
  | 13 => ("TilesOfLawModel", "ofWeary", "I", false)
  | 14 => ("TilesOfLawModel", "ofColumn", "I", false)
  | 15 => ("TilesOfLawModel", "ofRow", "I", false)
  | 16 => ("TilesOfLawModel", "ofNumber", "I", false)
  | 17 => ("TilesOfLawModel", "ofMinute", "I", false)
  | 18 => ("TilesOfLawModel", "ofWorn", "I", false)
  | 19 => ("TilesOfLawModel", "from", "I", false)
  | 20 => ("TilesOfLawModel", "size", "I", false)
  | 21 => ("TilesOfLawModel", "here", "I", false)
  | 22 => ("TilesOfLawModel", "token", "I", false)
  | 23 => ("TilesOfLawModel", "tokenAt", "I", false)
  | 24 => ("TilesOfLawModel", "tokenWorth", "J", false)
  | 25 => ("TilesOfLawModel", "open", "I", false)
  | 26 => ("TilesOfLawModel", "bad", "Z", false)
  | 27 => ("TilesOfLawModel", "fault", "I", false)
  | 28 => ("TilesOfLawModel", "was", "[I", true)
  | 29 => ("TilesOfLawModel", "bestFound", "I", false)
  | 30 => ("TilesOfLawModel", "bestMany", "I", false)
  | 31 => ("TilesOfLawModel", "rowsKept", "[I", true)
  | 32 => ("TilesOfLawModel", "manyKept", "I", false)
  | 33 => ("TilesOfLawModel", "minuteKept", "I", false)
  | 34 => ("TilesOfLawModel", "ruleKept", "I", false)
  | 35 => ("TilesOfLawModel", "redKept", "J", false)
  | 36 => ("TilesOfLawModel", "hollowKept", "J", false)
  | 37 => ("TilesOfLawModel", "isThere", "[Z", true)
  | 38 => ("TilesOfLawModel", "sorts", "[I", true)
  | 39 => ("TilesOfLawModel", "sheetSize", "[I", true)
  | _ => ("TilesOfLawModel", "items", "[I", true)
def tyX6 : Nat → FieldType := fun k => match k with
  | 0 => .int
  | 1 => .array .int
  | 2 => .array .int
  | 3 => .int
  | 4 => .int
  | 5 => .array .int
  | 6 => .int
  | 7 => .int
  | 8 => .long
  | 9 => .long
  | 10 => .array .int
  | 11 => .int
  | 12 => .int
  | 13 => .int
  | 14 => .int
  | 15 => .int
  | 16 => .int
  | 17 => .int
  | 18 => .int
  | 19 => .int
  | 20 => .int
  | 21 => .int
  | 22 => .int
  | 23 => .int
  | 24 => .long
  | 25 => .int
  | 26 => .boolean
  | 27 => .int
  | 28 => .array .int
  | 29 => .int
  | 30 => .int
  | 31 => .array .int
  | 32 => .int
  | 33 => .int
  | 34 => .int
  | 35 => .long
  | 36 => .long
  | 37 => .array .boolean
  | 38 => .array .int
  | 39 => .array .int
  | _ => .array .int
abbrev wsX60 : List Cond := u_ws RX6 TX6 41
theorem nmX6 : ∀ a, a < 41 → ∀ b, b < 41 → a ≠ b → (TX6 a).2.1 ≠ (TX6 b).2.1 := by decide +kernel
theorem tyX6_ok : ∀ k, k < 41 → parseFieldDescriptor (TX6 k).2.2.1 = some (tyX6 k) := by decide +kernel
abbrev cX6_in : ByteArray := prog_8_method_2_code
def yX6_in : MethodName := ⟨RX6, "in", "(JJJ)Z"⟩
abbrev cX6_within : ByteArray := prog_8_method_3_code
def yX6_within : MethodName := ⟨RX6, "within", "(III)I"⟩
abbrev cX6_init : ByteArray := prog_8_method_4_code
def yX6_init : MethodName := ⟨RX6, "<init>", "()V"⟩
abbrev cX6_spell : ByteArray := prog_8_method_5_code
def yX6_spell : MethodName := ⟨RX6, "spell", "(IIIIIIIII)V"⟩
abbrev cX6_isOne : ByteArray := prog_8_method_6_code
def yX6_isOne : MethodName := ⟨RX6, "isOne", "(I)Z"⟩
abbrev cX6_areTwo : ByteArray := prog_8_method_7_code
def yX6_areTwo : MethodName := ⟨RX6, "areTwo", "(II)Z"⟩
abbrev cX6_isTile : ByteArray := prog_8_method_8_code
def yX6_isTile : MethodName := ⟨RX6, "isTile", "(I)Z"⟩
abbrev cX6_has : ByteArray := prog_8_method_9_code
def yX6_has : MethodName := ⟨RX6, "has", "(JI)Z"⟩
abbrev cX6_bitsOf : ByteArray := prog_8_method_10_code
def yX6_bitsOf : MethodName := ⟨RX6, "bitsOf", "(J)I"⟩
abbrev cX6_isOf : ByteArray := prog_8_method_11_code
def yX6_isOf : MethodName := ⟨RX6, "isOf", "(II)Z"⟩
abbrev cX6_mostOf : ByteArray := prog_8_method_12_code
def yX6_mostOf : MethodName := ⟨RX6, "mostOf", "(I)I"⟩
abbrev cX6_set : ByteArray := prog_8_method_13_code
def yX6_set : MethodName := ⟨RX6, "set", "(III)I"⟩
abbrev cX6_lays : ByteArray := prog_8_method_14_code
def yX6_lays : MethodName := ⟨RX6, "lays", "(III)V"⟩
abbrev cX6_party : ByteArray := prog_8_method_15_code
def yX6_party : MethodName := ⟨RX6, "party", "(III)I"⟩
abbrev cX6_told : ByteArray := prog_8_method_16_code
def yX6_told : MethodName := ⟨RX6, "told", "(II)I"⟩
abbrev cX6_onOf : ByteArray := prog_8_method_17_code
def yX6_onOf : MethodName := ⟨RX6, "onOf", "(I)I"⟩
abbrev cX6_whoOn : ByteArray := prog_8_method_18_code
def yX6_whoOn : MethodName := ⟨RX6, "whoOn", "(I)I"⟩
abbrev cX6_stoodOn : ByteArray := prog_8_method_19_code
def yX6_stoodOn : MethodName := ⟨RX6, "stoodOn", "()J"⟩
abbrev cX6_floor : ByteArray := prog_8_method_20_code
def yX6_floor : MethodName := ⟨RX6, "floor", "(I)J"⟩
abbrev cX6_feed : ByteArray := prog_8_method_21_code
def yX6_feed : MethodName := ⟨RX6, "feed", "(I)I"⟩
abbrev cX6_byteAt : ByteArray := prog_8_method_22_code
def yX6_byteAt : MethodName := ⟨RX6, "byteAt", "(I)I"⟩
abbrev cX6_next : ByteArray := prog_8_method_23_code
def yX6_next : MethodName := ⟨RX6, "next", "()V"⟩
abbrev cX6_fail : ByteArray := prog_8_method_24_code
def yX6_fail : MethodName := ⟨RX6, "fail", "()V"⟩
abbrev cX6_isLetter : ByteArray := prog_8_method_25_code
def yX6_isLetter : MethodName := ⟨RX6, "isLetter", "(II)Z"⟩
abbrev cX6_isWord : ByteArray := prog_8_method_26_code
def yX6_isWord : MethodName := ⟨RX6, "isWord", "(IIIIIIII)Z"⟩
abbrev cX6_isSign : ByteArray := prog_8_method_27_code
def yX6_isSign : MethodName := ⟨RX6, "isSign", "(I)Z"⟩
abbrev cX6_opens : ByteArray := prog_8_method_28_code
def yX6_opens : MethodName := ⟨RX6, "opens", "()Z"⟩
abbrev cX6_name : ByteArray := prog_8_method_29_code
def yX6_name : MethodName := ⟨RX6, "name", "()I"⟩
abbrev cX6_atom5 : ByteArray := prog_8_method_30_code
def yX6_atom5 : MethodName := ⟨RX6, "atom5", "()I"⟩
abbrev cX6_term5 : ByteArray := prog_8_method_31_code
def yX6_term5 : MethodName := ⟨RX6, "term5", "()I"⟩
abbrev cX6_added5 : ByteArray := prog_8_method_32_code
def yX6_added5 : MethodName := ⟨RX6, "added5", "()I"⟩
abbrev cX6_not5 : ByteArray := prog_8_method_33_code
def yX6_not5 : MethodName := ⟨RX6, "not5", "()I"⟩
abbrev cX6_both5 : ByteArray := prog_8_method_34_code
def yX6_both5 : MethodName := ⟨RX6, "both5", "()I"⟩
abbrev cX6_either5 : ByteArray := prog_8_method_35_code
def yX6_either5 : MethodName := ⟨RX6, "either5", "()I"⟩
abbrev cX6_atom4 : ByteArray := prog_8_method_36_code
def yX6_atom4 : MethodName := ⟨RX6, "atom4", "()I"⟩
abbrev cX6_term4 : ByteArray := prog_8_method_37_code
def yX6_term4 : MethodName := ⟨RX6, "term4", "()I"⟩
abbrev cX6_added4 : ByteArray := prog_8_method_38_code
def yX6_added4 : MethodName := ⟨RX6, "added4", "()I"⟩
abbrev cX6_not4 : ByteArray := prog_8_method_39_code
def yX6_not4 : MethodName := ⟨RX6, "not4", "()I"⟩
abbrev cX6_both4 : ByteArray := prog_8_method_40_code
def yX6_both4 : MethodName := ⟨RX6, "both4", "()I"⟩
abbrev cX6_either4 : ByteArray := prog_8_method_41_code
def yX6_either4 : MethodName := ⟨RX6, "either4", "()I"⟩
abbrev cX6_atom3 : ByteArray := prog_8_method_42_code
def yX6_atom3 : MethodName := ⟨RX6, "atom3", "()I"⟩
abbrev cX6_term3 : ByteArray := prog_8_method_43_code
def yX6_term3 : MethodName := ⟨RX6, "term3", "()I"⟩
abbrev cX6_added3 : ByteArray := prog_8_method_44_code
def yX6_added3 : MethodName := ⟨RX6, "added3", "()I"⟩
abbrev cX6_not3 : ByteArray := prog_8_method_45_code
def yX6_not3 : MethodName := ⟨RX6, "not3", "()I"⟩
abbrev cX6_both3 : ByteArray := prog_8_method_46_code
def yX6_both3 : MethodName := ⟨RX6, "both3", "()I"⟩
abbrev cX6_either3 : ByteArray := prog_8_method_47_code
def yX6_either3 : MethodName := ⟨RX6, "either3", "()I"⟩
abbrev cX6_atom2 : ByteArray := prog_8_method_48_code
def yX6_atom2 : MethodName := ⟨RX6, "atom2", "()I"⟩
abbrev cX6_term2 : ByteArray := prog_8_method_49_code
def yX6_term2 : MethodName := ⟨RX6, "term2", "()I"⟩
abbrev cX6_added2 : ByteArray := prog_8_method_50_code
def yX6_added2 : MethodName := ⟨RX6, "added2", "()I"⟩
abbrev cX6_not2 : ByteArray := prog_8_method_51_code
def yX6_not2 : MethodName := ⟨RX6, "not2", "()I"⟩
abbrev cX6_both2 : ByteArray := prog_8_method_52_code
def yX6_both2 : MethodName := ⟨RX6, "both2", "()I"⟩
abbrev cX6_either2 : ByteArray := prog_8_method_53_code
def yX6_either2 : MethodName := ⟨RX6, "either2", "()I"⟩
abbrev cX6_atom1 : ByteArray := prog_8_method_54_code
def yX6_atom1 : MethodName := ⟨RX6, "atom1", "()I"⟩
abbrev cX6_term1 : ByteArray := prog_8_method_55_code
def yX6_term1 : MethodName := ⟨RX6, "term1", "()I"⟩
abbrev cX6_added1 : ByteArray := prog_8_method_56_code
def yX6_added1 : MethodName := ⟨RX6, "added1", "()I"⟩
abbrev cX6_not1 : ByteArray := prog_8_method_57_code
def yX6_not1 : MethodName := ⟨RX6, "not1", "()I"⟩
abbrev cX6_both1 : ByteArray := prog_8_method_58_code
def yX6_both1 : MethodName := ⟨RX6, "both1", "()I"⟩
abbrev cX6_either1 : ByteArray := prog_8_method_59_code
def yX6_either1 : MethodName := ⟨RX6, "either1", "()I"⟩
abbrev cX6_atom0 : ByteArray := prog_8_method_60_code
def yX6_atom0 : MethodName := ⟨RX6, "atom0", "()I"⟩
abbrev cX6_term0 : ByteArray := prog_8_method_61_code
def yX6_term0 : MethodName := ⟨RX6, "term0", "()I"⟩
abbrev cX6_added0 : ByteArray := prog_8_method_62_code
def yX6_added0 : MethodName := ⟨RX6, "added0", "()I"⟩
abbrev cX6_not0 : ByteArray := prog_8_method_63_code
def yX6_not0 : MethodName := ⟨RX6, "not0", "()I"⟩
abbrev cX6_both0 : ByteArray := prog_8_method_64_code
def yX6_both0 : MethodName := ⟨RX6, "both0", "()I"⟩
abbrev cX6_either0 : ByteArray := prog_8_method_65_code
def yX6_either0 : MethodName := ⟨RX6, "either0", "()I"⟩
abbrev cX6_part : ByteArray := prog_8_method_66_code
def yX6_part : MethodName := ⟨RX6, "part", "(Z)I"⟩
abbrev cX6_read : ByteArray := prog_8_method_67_code
def yX6_read : MethodName := ⟨RX6, "read", "(II)I"⟩
abbrev cX6_text : ByteArray := prog_8_method_68_code
def yX6_text : MethodName := ⟨RX6, "text", "()I"⟩
abbrev cX6_force : ByteArray := prog_8_method_69_code
def yX6_force : MethodName := ⟨RX6, "force", "(I)I"⟩
abbrev cX6_says : ByteArray := prog_8_method_70_code
def yX6_says : MethodName := ⟨RX6, "says", "(II)I"⟩
abbrev cX6_turnOf : ByteArray := prog_8_method_71_code
def yX6_turnOf : MethodName := ⟨RX6, "turnOf", "(I)I"⟩
abbrev cX6_tiresOf : ByteArray := prog_8_method_72_code
def yX6_tiresOf : MethodName := ⟨RX6, "tiresOf", "(I)I"⟩
abbrev cX6_restsOf : ByteArray := prog_8_method_73_code
def yX6_restsOf : MethodName := ⟨RX6, "restsOf", "(I)I"⟩
abbrev cX6_foundOf : ByteArray := prog_8_method_74_code
def yX6_foundOf : MethodName := ⟨RX6, "foundOf", "(I)I"⟩
abbrev cX6_isBlack : ByteArray := prog_8_method_75_code
def yX6_isBlack : MethodName := ⟨RX6, "isBlack", "(I)Z"⟩
abbrev cX6_columnsBy : ByteArray := prog_8_method_76_code
def yX6_columnsBy : MethodName := ⟨RX6, "columnsBy", "(I)I"⟩
abbrev cX6_rowsBy : ByteArray := prog_8_method_77_code
def yX6_rowsBy : MethodName := ⟨RX6, "rowsBy", "(I)I"⟩
abbrev cX6_leapFrom : ByteArray := prog_8_method_78_code
def yX6_leapFrom : MethodName := ⟨RX6, "leapFrom", "(III)I"⟩
abbrev cX6_leap : ByteArray := prog_8_method_79_code
def yX6_leap : MethodName := ⟨RX6, "leap", "(II)I"⟩
abbrev cX6_passes : ByteArray := prog_8_method_80_code
def yX6_passes : MethodName := ⟨RX6, "passes", "()I"⟩
abbrev cX6_minute : ByteArray := prog_8_method_81_code
def yX6_minute : MethodName := ⟨RX6, "minute", "()I"⟩
abbrev cX6_laysAside : ByteArray := prog_8_method_82_code
def yX6_laysAside : MethodName := ⟨RX6, "laysAside", "()V"⟩
abbrev cX6_laysBack : ByteArray := prog_8_method_83_code
def yX6_laysBack : MethodName := ⟨RX6, "laysBack", "()V"⟩
abbrev cX6_goes : ByteArray := prog_8_method_84_code
def yX6_goes : MethodName := ⟨RX6, "goes", "(I)V"⟩
abbrev cX6_foundMany : ByteArray := prog_8_method_85_code
def yX6_foundMany : MethodName := ⟨RX6, "foundMany", "(I)I"⟩
abbrev cX6_foundBehind : ByteArray := prog_8_method_86_code
def yX6_foundBehind : MethodName := ⟨RX6, "foundBehind", "(II)I"⟩
abbrev cX6_run : ByteArray := prog_8_method_87_code
def yX6_run : MethodName := ⟨RX6, "run", "(III)I"⟩
abbrev cX6_call : ByteArray := prog_8_method_88_code
def yX6_call : MethodName := ⟨RX6, "call", "(III)I"⟩
abbrev cX6_meet : ByteArray := prog_8_method_89_code
def yX6_meet : MethodName := ⟨RX6, "meet", "(II)I"⟩
abbrev cX6_reachedBy : ByteArray := prog_8_method_90_code
def yX6_reachedBy : MethodName := ⟨RX6, "reachedBy", "(II)J"⟩
abbrev cX6_reached : ByteArray := prog_8_method_91_code
def yX6_reached : MethodName := ⟨RX6, "reached", "(II)J"⟩
abbrev cX6_fewest : ByteArray := prog_8_method_92_code
def yX6_fewest : MethodName := ⟨RX6, "fewest", "(II)I"⟩
abbrev cX6_tries : ByteArray := prog_8_method_93_code
def yX6_tries : MethodName := ⟨RX6, "tries", "(II)V"⟩
abbrev cX6_triesTile : ByteArray := prog_8_method_94_code
def yX6_triesTile : MethodName := ⟨RX6, "triesTile", "(IIII)V"⟩
abbrev cX6_best : ByteArray := prog_8_method_95_code
def yX6_best : MethodName := ⟨RX6, "best", "(III)I"⟩
abbrev cX6_lowest : ByteArray := prog_8_method_96_code
def yX6_lowest : MethodName := ⟨RX6, "lowest", "(JJI)J"⟩
abbrev cX6_mean : ByteArray := prog_8_method_97_code
def yX6_mean : MethodName := ⟨RX6, "mean", "(I)J"⟩
abbrev cX6_firstOther : ByteArray := prog_8_method_98_code
def yX6_firstOther : MethodName := ⟨RX6, "firstOther", "(II)I"⟩
abbrev cX6_likeSet : ByteArray := prog_8_method_99_code
def yX6_likeSet : MethodName := ⟨RX6, "likeSet", "(I)I"⟩
abbrev cX6_tells : ByteArray := prog_8_method_100_code
def yX6_tells : MethodName := ⟨RX6, "tells", "(III)I"⟩
abbrev cX6_stood : ByteArray := prog_8_method_101_code
def yX6_stood : MethodName := ⟨RX6, "stood", "(II)J"⟩
abbrev cX6_film : ByteArray := prog_8_method_102_code
def yX6_film : MethodName := ⟨RX6, "film", "(III)I"⟩
abbrev cX6_onDrawn : ByteArray := prog_8_method_103_code
def yX6_onDrawn : MethodName := ⟨RX6, "onDrawn", "(III)I"⟩
abbrev cX6_drawn : ByteArray := prog_8_method_104_code
def yX6_drawn : MethodName := ⟨RX6, "drawn", "(III)I"⟩
abbrev cX6_chance : ByteArray := prog_8_method_105_code
def yX6_chance : MethodName := ⟨RX6, "chance", "(IIII)J"⟩
abbrev cX6_image : ByteArray := prog_8_method_106_code
def yX6_image : MethodName := ⟨RX6, "image", "()I"⟩
abbrev cX6_back : ByteArray := prog_8_method_107_code
def yX6_back : MethodName := ⟨RX6, "back", "()I"⟩
abbrev cX6_count : ByteArray := prog_8_method_108_code
def yX6_count : MethodName := ⟨RX6, "count", "(I)I"⟩
abbrev cX6_isSheet : ByteArray := prog_8_method_109_code
def yX6_isSheet : MethodName := ⟨RX6, "isSheet", "(I)Z"⟩
abbrev cX6_sheet : ByteArray := prog_8_method_110_code
def yX6_sheet : MethodName := ⟨RX6, "sheet", "(III)I"⟩
abbrev cX6_cell : ByteArray := prog_8_method_111_code
def yX6_cell : MethodName := ⟨RX6, "cell", "(III)I"⟩
abbrev cX6_copy : ByteArray := prog_8_method_112_code
def yX6_copy : MethodName := ⟨RX6, "copy", "(IIIII)I"⟩
abbrev cX6_suits : ByteArray := prog_8_method_113_code
def yX6_suits : MethodName := ⟨RX6, "suits", "(IIII)I"⟩
abbrev cX6_over : ByteArray := prog_8_method_114_code
def yX6_over : MethodName := ⟨RX6, "over", "(I)I"⟩
abbrev cX6_taken : ByteArray := prog_8_method_115_code
def yX6_taken : MethodName := ⟨RX6, "taken", "(II)I"⟩
def RJx145de : String := "java/io/Serializable"
def TJx145de : u_T := fun k => match k with
  | _ => ("", "", "", false)
def tyJx145de : Nat → FieldType := fun k => match k with
  | _ => .int
abbrev wsJx145de0 : List Cond := u_ws RJx145de TJx145de 0
theorem nmJx145de : ∀ a, a < 0 → ∀ b, b < 0 → a ≠ b → (TJx145de a).2.1 ≠ (TJx145de b).2.1 := by decide +kernel
theorem tyJx145de_ok : ∀ k, k < 0 → parseFieldDescriptor (TJx145de k).2.2.1 = some (tyJx145de k) := by decide +kernel
def RJx9f9b0 : String := "java/lang/CharSequence"
def TJx9f9b0 : u_T := fun k => match k with
  | _ => ("", "", "", false)
def tyJx9f9b0 : Nat → FieldType := fun k => match k with
  | _ => .int
abbrev wsJx9f9b00 : List Cond := u_ws RJx9f9b0 TJx9f9b0 0
theorem nmJx9f9b0 : ∀ a, a < 0 → ∀ b, b < 0 → a ≠ b → (TJx9f9b0 a).2.1 ≠ (TJx9f9b0 b).2.1 := by decide +kernel
theorem tyJx9f9b0_ok : ∀ k, k < 0 → parseFieldDescriptor (TJx9f9b0 k).2.2.1 = some (tyJx9f9b0 k) := by decide +kernel
def RJx8e188 : String := "java/lang/Cloneable"
def TJx8e188 : u_T := fun k => match k with
  | _ => ("", "", "", false)
def tyJx8e188 : Nat → FieldType := fun k => match k with
  | _ => .int
abbrev wsJx8e1880 : List Cond := u_ws RJx8e188 TJx8e188 0
theorem nmJx8e188 : ∀ a, a < 0 → ∀ b, b < 0 → a ≠ b → (TJx8e188 a).2.1 ≠ (TJx8e188 b).2.1 := by decide +kernel
theorem tyJx8e188_ok : ∀ k, k < 0 → parseFieldDescriptor (TJx8e188 k).2.2.1 = some (tyJx8e188 k) := by decide +kernel
def RJxb160c : String := "java/lang/Comparable"
def TJxb160c : u_T := fun k => match k with
  | _ => ("", "", "", false)
def tyJxb160c : Nat → FieldType := fun k => match k with
  | _ => .int
abbrev wsJxb160c0 : List Cond := u_ws RJxb160c TJxb160c 0
theorem nmJxb160c : ∀ a, a < 0 → ∀ b, b < 0 → a ≠ b → (TJxb160c a).2.1 ≠ (TJxb160c b).2.1 := by decide +kernel
theorem tyJxb160c_ok : ∀ k, k < 0 → parseFieldDescriptor (TJxb160c k).2.2.1 = some (tyJxb160c k) := by decide +kernel
def RJ13 : String := "java/lang/Long"
def TJ13 : u_T := fun k => match k with
  | _ => ("", "", "", false)
def tyJ13 : Nat → FieldType := fun k => match k with
  | _ => .int
abbrev wsJ130 : List Cond := u_ws RJ13 TJ13 0
theorem nmJ13 : ∀ a, a < 0 → ∀ b, b < 0 → a ≠ b → (TJ13 a).2.1 ≠ (TJ13 b).2.1 := by decide +kernel
theorem tyJ13_ok : ∀ k, k < 0 → parseFieldDescriptor (TJ13 k).2.2.1 = some (tyJ13 k) := by decide +kernel
abbrev cJ13_bitCount_95d88 : ByteArray := prog_10_method_50_code
def yJ13_bitCount_95d88 : MethodName := ⟨RJ13, "bitCount", "(J)I"⟩
def RJ9 : String := "java/lang/Math"
def TJ9 : u_T := fun k => match k with
  | _ => ("", "", "", false)
def tyJ9 : Nat → FieldType := fun k => match k with
  | _ => .int
abbrev wsJ90 : List Cond := u_ws RJ9 TJ9 0
theorem nmJ9 : ∀ a, a < 0 → ∀ b, b < 0 → a ≠ b → (TJ9 a).2.1 ≠ (TJ9 b).2.1 := by decide +kernel
theorem tyJ9_ok : ∀ k, k < 0 → parseFieldDescriptor (TJ9 k).2.2.1 = some (tyJ9 k) := by decide +kernel
abbrev cJ9_floorMod_7cf53 : ByteArray := prog_11_method_50_code
def yJ9_floorMod_7cf53 : MethodName := ⟨RJ9, "floorMod", "(II)I"⟩
abbrev cJ9_max_7cf53 : ByteArray := prog_11_method_65_code
def yJ9_max_7cf53 : MethodName := ⟨RJ9, "max", "(II)I"⟩
abbrev cJ9_min_7cf53 : ByteArray := prog_11_method_69_code
def yJ9_min_7cf53 : MethodName := ⟨RJ9, "min", "(II)I"⟩
def RJ0 : String := "java/lang/String"
def TJ0 : u_T := fun k => match k with
  | _ => ("", "", "", false)
def tyJ0 : Nat → FieldType := fun k => match k with
  | _ => .int
abbrev wsJ00 : List Cond := u_ws RJ0 TJ0 0
theorem nmJ0 : ∀ a, a < 0 → ∀ b, b < 0 → a ≠ b → (TJ0 a).2.1 ≠ (TJ0 b).2.1 := by decide +kernel
theorem tyJ0_ok : ∀ k, k < 0 → parseFieldDescriptor (TJ0 k).2.2.1 = some (tyJ0 k) := by decide +kernel
abbrev cJ0_length_8abf5 : ByteArray := prog_12_method_54_code
def yJ0_length_8abf5 : MethodName := ⟨RJ0, "length", "()I"⟩
abbrev cJ0_charAt_5068e : ByteArray := prog_12_method_56_code
def yJ0_charAt_5068e : MethodName := ⟨RJ0, "charAt", "(I)C"⟩
abbrev cJ0_coder_7d493 : ByteArray := prog_12_method_152_code
def yJ0_coder_7d493 : MethodName := ⟨RJ0, "coder", "()B"⟩
abbrev cJ0_isLatin1_aae02 : ByteArray := prog_12_method_154_code
def yJ0_isLatin1_aae02 : MethodName := ⟨RJ0, "isLatin1", "()Z"⟩
abbrev cJ0_checkIndex_df160 : ByteArray := prog_12_method_155_code
def yJ0_checkIndex_df160 : MethodName := ⟨RJ0, "checkIndex", "(II)V"⟩
def RJ1 : String := "java/lang/StringLatin1"
def TJ1 : u_T := fun k => match k with
  | _ => ("", "", "", false)
def tyJ1 : Nat → FieldType := fun k => match k with
  | _ => .int
abbrev wsJ10 : List Cond := u_ws RJ1 TJ1 0
theorem nmJ1 : ∀ a, a < 0 → ∀ b, b < 0 → a ≠ b → (TJ1 a).2.1 ≠ (TJ1 b).2.1 := by decide +kernel
theorem tyJ1_ok : ∀ k, k < 0 → parseFieldDescriptor (TJ1 k).2.2.1 = some (tyJ1 k) := by decide +kernel
abbrev cJ1_charAt_3b067 : ByteArray := prog_13_method_2_code
def yJ1_charAt_3b067 : MethodName := ⟨RJ1, "charAt", "([BI)C"⟩
def RJ2 : String := "java/lang/StringUTF16"
def TJ2 : u_T := fun k => match k with
  | _ => ("", "", "", false)
def tyJ2 : Nat → FieldType := fun k => match k with
  | _ => .int
abbrev wsJ20 : List Cond := u_ws RJ2 TJ2 0
theorem nmJ2 : ∀ a, a < 0 → ∀ b, b < 0 → a ≠ b → (TJ2 a).2.1 ≠ (TJ2 b).2.1 := by decide +kernel
theorem tyJ2_ok : ∀ k, k < 0 → parseFieldDescriptor (TJ2 k).2.2.1 = some (tyJ2 k) := by decide +kernel
abbrev cJ2_getChar_3b067 : ByteArray := prog_14_method_5_code
def yJ2_getChar_3b067 : MethodName := ⟨RJ2, "getChar", "([BI)C"⟩
abbrev cJ2_length_9d52b : ByteArray := prog_14_method_6_code
def yJ2_length_9d52b : MethodName := ⟨RJ2, "length", "([B)I"⟩
abbrev cJ2_charAt_3b067 : ByteArray := prog_14_method_83_code
def yJ2_charAt_3b067 : MethodName := ⟨RJ2, "charAt", "([BI)C"⟩
abbrev cJ2_checkIndex_2214a : ByteArray := prog_14_method_91_code
def yJ2_checkIndex_2214a : MethodName := ⟨RJ2, "checkIndex", "(I[B)V"⟩
def RJ10 : String := "java/lang/System"
def TJ10 : u_T := fun k => match k with
  | _ => ("", "", "", false)
def tyJ10 : Nat → FieldType := fun k => match k with
  | _ => .int
abbrev wsJ100 : List Cond := u_ws RJ10 TJ10 0
theorem nmJ10 : ∀ a, a < 0 → ∀ b, b < 0 → a ≠ b → (TJ10 a).2.1 ≠ (TJ10 b).2.1 := by decide +kernel
theorem tyJ10_ok : ∀ k, k < 0 → parseFieldDescriptor (TJ10 k).2.2.1 = some (tyJ10 k) := by decide +kernel
def RJxfd54e : String := "java/lang/constant/Constable"
def TJxfd54e : u_T := fun k => match k with
  | _ => ("", "", "", false)
def tyJxfd54e : Nat → FieldType := fun k => match k with
  | _ => .int
abbrev wsJxfd54e0 : List Cond := u_ws RJxfd54e TJxfd54e 0
theorem nmJxfd54e : ∀ a, a < 0 → ∀ b, b < 0 → a ≠ b → (TJxfd54e a).2.1 ≠ (TJxfd54e b).2.1 := by decide +kernel
theorem tyJxfd54e_ok : ∀ k, k < 0 → parseFieldDescriptor (TJxfd54e k).2.2.1 = some (tyJxfd54e k) := by decide +kernel
def RJx3cf43 : String := "java/lang/constant/ConstantDesc"
def TJx3cf43 : u_T := fun k => match k with
  | _ => ("", "", "", false)
def tyJx3cf43 : Nat → FieldType := fun k => match k with
  | _ => .int
abbrev wsJx3cf430 : List Cond := u_ws RJx3cf43 TJx3cf43 0
theorem nmJx3cf43 : ∀ a, a < 0 → ∀ b, b < 0 → a ≠ b → (TJx3cf43 a).2.1 ≠ (TJx3cf43 b).2.1 := by decide +kernel
theorem tyJx3cf43_ok : ∀ k, k < 0 → parseFieldDescriptor (TJx3cf43 k).2.2.1 = some (tyJx3cf43 k) := by decide +kernel
def RJ7 : String := "java/util/Arrays"
def TJ7 : u_T := fun k => match k with
  | _ => ("", "", "", false)
def tyJ7 : Nat → FieldType := fun k => match k with
  | _ => .int
abbrev wsJ70 : List Cond := u_ws RJ7 TJ7 0
theorem nmJ7 : ∀ a, a < 0 → ∀ b, b < 0 → a ≠ b → (TJ7 a).2.1 ≠ (TJ7 b).2.1 := by decide +kernel
theorem tyJ7_ok : ∀ k, k < 0 → parseFieldDescriptor (TJ7 k).2.2.1 = some (tyJ7 k) := by decide +kernel
abbrev cJ7_fill_53178 : ByteArray := prog_16_method_103_code
def yJ7_fill_53178 : MethodName := ⟨RJ7, "fill", "([II)V"⟩
abbrev cJ7_copyOf_59c91 : ByteArray := prog_16_method_123_code
def yJ7_copyOf_59c91 : MethodName := ⟨RJ7, "copyOf", "([II)[I"⟩
def RJ3 : String := "jdk/internal/util/Preconditions"
def TJ3 : u_T := fun k => match k with
  | _ => ("", "", "", false)
def tyJ3 : Nat → FieldType := fun k => match k with
  | _ => .int
abbrev wsJ30 : List Cond := u_ws RJ3 TJ3 0
theorem nmJ3 : ∀ a, a < 0 → ∀ b, b < 0 → a ≠ b → (TJ3 a).2.1 ≠ (TJ3 b).2.1 := by decide +kernel
theorem tyJ3_ok : ∀ k, k < 0 → parseFieldDescriptor (TJ3 k).2.2.1 = some (tyJ3 k) := by decide +kernel
abbrev cJ3_checkIndex_8e157 : ByteArray := prog_17_method_11_code
def yJ3_checkIndex_8e157 : MethodName := ⟨RJ3, "checkIndex", "(IILjava/util/function/BiFunction;)I"⟩
def RL : String := "TilesOfLawLaw"
abbrev cL_law : ByteArray := code
def yL_law : MethodName := ⟨RL, "law", "([I)Z"⟩
theorem inX0 : ∀ w ∈ wsX00, w ∈ lw_tbl := by decide +kernel
theorem inX1 : ∀ w ∈ wsX10, w ∈ lw_tbl := by decide +kernel
theorem inX2 : ∀ w ∈ wsX20, w ∈ lw_tbl := by decide +kernel
theorem inX3 : ∀ w ∈ wsX30, w ∈ lw_tbl := by decide +kernel
theorem inX4 : ∀ w ∈ wsX40, w ∈ lw_tbl := by decide +kernel
theorem inX5 : ∀ w ∈ wsX50, w ∈ lw_tbl := by decide +kernel
theorem inX6 : ∀ w ∈ wsX60, w ∈ lw_tbl := by decide +kernel
theorem inJx145de : ∀ w ∈ wsJx145de0, w ∈ lw_tbl := by decide +kernel
theorem inJx9f9b0 : ∀ w ∈ wsJx9f9b00, w ∈ lw_tbl := by decide +kernel
theorem inJx8e188 : ∀ w ∈ wsJx8e1880, w ∈ lw_tbl := by decide +kernel
theorem inJxb160c : ∀ w ∈ wsJxb160c0, w ∈ lw_tbl := by decide +kernel
theorem inJ13 : ∀ w ∈ wsJ130, w ∈ lw_tbl := by decide +kernel
theorem inJ9 : ∀ w ∈ wsJ90, w ∈ lw_tbl := by decide +kernel
theorem inJ0 : ∀ w ∈ wsJ00, w ∈ lw_tbl := by decide +kernel
theorem inJ1 : ∀ w ∈ wsJ10, w ∈ lw_tbl := by decide +kernel
theorem inJ2 : ∀ w ∈ wsJ20, w ∈ lw_tbl := by decide +kernel
theorem inJ10 : ∀ w ∈ wsJ100, w ∈ lw_tbl := by decide +kernel
theorem inJxfd54e : ∀ w ∈ wsJxfd54e0, w ∈ lw_tbl := by decide +kernel
theorem inJx3cf43 : ∀ w ∈ wsJx3cf430, w ∈ lw_tbl := by decide +kernel
theorem inJ7 : ∀ w ∈ wsJ70, w ∈ lw_tbl := by decide +kernel
theorem inJ3 : ∀ w ∈ wsJ30, w ∈ lw_tbl := by decide +kernel
abbrev vwCl : List vw_C := [(RX0, TX0, 9), (RX1, TX1, 3), (RX2, TX2, 9), (RX3, TX3, 3), (RX4, TX4, 3), (RX5, TX5, 8), (RX6, TX6, 41)]
def TB : List Cond := lw_tbl.filter goodWord
theorem TB_good : GoodIn lw_tbl TB := fun w h => ⟨(List.mem_filter.mp h).1, good_of_word (List.mem_filter.mp h).2⟩
end
section
theorem dX0_init_0 : decode cX0_init 0 = .ok (.aload_n 0, 1) := by decide +kernel
theorem dX0_init_1 : decode cX0_init 1 = .ok (.invokespecial 3, 3) := by decide +kernel
theorem dX0_init_4 : decode cX0_init 4 = .ok (.aload_n 0, 1) := by decide +kernel
theorem dX0_init_5 : decode cX0_init 5 = .ok (.iconst 5, 1) := by decide +kernel
theorem dX0_init_6 : decode cX0_init 6 = .ok (.newarray .int, 2) := by decide +kernel
theorem dX0_init_8 : decode cX0_init 8 = .ok (.putfield 9, 3) := by decide +kernel
theorem dX0_init_11 : decode cX0_init 11 = .ok (.aload_n 0, 1) := by decide +kernel
theorem dX0_init_12 : decode cX0_init 12 = .ok (.iconst 5, 1) := by decide +kernel
theorem dX0_init_13 : decode cX0_init 13 = .ok (.newarray .int, 2) := by decide +kernel
theorem dX0_init_15 : decode cX0_init 15 = .ok (.putfield 15, 3) := by decide +kernel
theorem dX0_init_18 : decode cX0_init 18 = .ok (.aload_n 0, 1) := by decide +kernel
theorem dX0_init_19 : decode cX0_init 19 = .ok (.iconst 5, 1) := by decide +kernel
theorem dX0_init_20 : decode cX0_init 20 = .ok (.newarray .int, 2) := by decide +kernel
theorem dX0_init_22 : decode cX0_init 22 = .ok (.putfield 18, 3) := by decide +kernel
theorem dX0_init_25 : decode cX0_init 25 = .ok (.aload_n 0, 1) := by decide +kernel
theorem dX0_init_26 : decode cX0_init 26 = .ok (.iconst 5, 1) := by decide +kernel
theorem dX0_init_27 : decode cX0_init 27 = .ok (.newarray .int, 2) := by decide +kernel
theorem dX0_init_29 : decode cX0_init 29 = .ok (.putfield 21, 3) := by decide +kernel
theorem dX0_init_32 : decode cX0_init 32 = .ok (.return_, 1) := by decide +kernel
theorem dX0_become_0 : decode cX0_become 0 = .ok (.aload_n 0, 1) := by decide +kernel
theorem dX0_become_1 : decode cX0_become 1 = .ok (.aload_n 1, 1) := by decide +kernel
theorem dX0_become_2 : decode cX0_become 2 = .ok (.getfield 24, 3) := by decide +kernel
theorem dX0_become_5 : decode cX0_become 5 = .ok (.putfield 24, 3) := by decide +kernel
theorem dX0_become_8 : decode cX0_become 8 = .ok (.aload_n 0, 1) := by decide +kernel
theorem dX0_become_9 : decode cX0_become 9 = .ok (.aload_n 1, 1) := by decide +kernel
theorem dX0_become_10 : decode cX0_become 10 = .ok (.getfield 28, 3) := by decide +kernel
theorem dX0_become_13 : decode cX0_become 13 = .ok (.putfield 28, 3) := by decide +kernel
theorem dX0_become_16 : decode cX0_become 16 = .ok (.aload_n 0, 1) := by decide +kernel
theorem dX0_become_17 : decode cX0_become 17 = .ok (.aload_n 1, 1) := by decide +kernel
theorem dX0_become_18 : decode cX0_become 18 = .ok (.getfield 31, 3) := by decide +kernel
theorem dX0_become_21 : decode cX0_become 21 = .ok (.putfield 31, 3) := by decide +kernel
theorem dX0_become_24 : decode cX0_become 24 = .ok (.aload_n 0, 1) := by decide +kernel
theorem dX0_become_25 : decode cX0_become 25 = .ok (.aload_n 1, 1) := by decide +kernel
theorem dX0_become_26 : decode cX0_become 26 = .ok (.getfield 35, 3) := by decide +kernel
theorem dX0_become_29 : decode cX0_become 29 = .ok (.putfield 35, 3) := by decide +kernel
theorem dX0_become_32 : decode cX0_become 32 = .ok (.aload_n 0, 1) := by decide +kernel
theorem dX0_become_33 : decode cX0_become 33 = .ok (.aload_n 1, 1) := by decide +kernel
theorem dX0_become_34 : decode cX0_become 34 = .ok (.getfield 38, 3) := by decide +kernel
theorem dX0_become_37 : decode cX0_become 37 = .ok (.putfield 38, 3) := by decide +kernel
theorem dX0_become_40 : decode cX0_become 40 = .ok (.aload_n 1, 1) := by decide +kernel
theorem dX0_become_41 : decode cX0_become 41 = .ok (.getfield 9, 3) := by decide +kernel
theorem dX0_become_44 : decode cX0_become 44 = .ok (.iconst 0, 1) := by decide +kernel
theorem dX0_become_45 : decode cX0_become 45 = .ok (.aload_n 0, 1) := by decide +kernel
theorem dX0_become_46 : decode cX0_become 46 = .ok (.getfield 9, 3) := by decide +kernel
theorem dX0_become_49 : decode cX0_become 49 = .ok (.iconst 0, 1) := by decide +kernel
theorem dX0_become_50 : decode cX0_become 50 = .ok (.iconst 5, 1) := by decide +kernel
theorem dX0_become_51 : decode cX0_become 51 = .ok (.invokestatic 41, 3) := by decide +kernel
theorem dX0_become_54 : decode cX0_become 54 = .ok (.aload_n 1, 1) := by decide +kernel
theorem dX0_become_55 : decode cX0_become 55 = .ok (.getfield 15, 3) := by decide +kernel
theorem dX0_become_58 : decode cX0_become 58 = .ok (.iconst 0, 1) := by decide +kernel
theorem dX0_become_59 : decode cX0_become 59 = .ok (.aload_n 0, 1) := by decide +kernel
theorem dX0_become_60 : decode cX0_become 60 = .ok (.getfield 15, 3) := by decide +kernel
theorem dX0_become_63 : decode cX0_become 63 = .ok (.iconst 0, 1) := by decide +kernel
theorem dX0_become_64 : decode cX0_become 64 = .ok (.iconst 5, 1) := by decide +kernel
theorem dX0_become_65 : decode cX0_become 65 = .ok (.invokestatic 41, 3) := by decide +kernel
theorem dX0_become_68 : decode cX0_become 68 = .ok (.aload_n 1, 1) := by decide +kernel
theorem dX0_become_69 : decode cX0_become 69 = .ok (.getfield 18, 3) := by decide +kernel
theorem dX0_become_72 : decode cX0_become 72 = .ok (.iconst 0, 1) := by decide +kernel
theorem dX0_become_73 : decode cX0_become 73 = .ok (.aload_n 0, 1) := by decide +kernel
theorem dX0_become_74 : decode cX0_become 74 = .ok (.getfield 18, 3) := by decide +kernel
theorem dX0_become_77 : decode cX0_become 77 = .ok (.iconst 0, 1) := by decide +kernel
theorem dX0_become_78 : decode cX0_become 78 = .ok (.iconst 5, 1) := by decide +kernel
theorem dX0_become_79 : decode cX0_become 79 = .ok (.invokestatic 41, 3) := by decide +kernel
theorem dX0_become_82 : decode cX0_become 82 = .ok (.aload_n 1, 1) := by decide +kernel
theorem dX0_become_83 : decode cX0_become 83 = .ok (.getfield 21, 3) := by decide +kernel
theorem dX0_become_86 : decode cX0_become 86 = .ok (.iconst 0, 1) := by decide +kernel
theorem dX0_become_87 : decode cX0_become 87 = .ok (.aload_n 0, 1) := by decide +kernel
theorem dX0_become_88 : decode cX0_become 88 = .ok (.getfield 21, 3) := by decide +kernel
theorem dX0_become_91 : decode cX0_become 91 = .ok (.iconst 0, 1) := by decide +kernel
theorem dX0_become_92 : decode cX0_become 92 = .ok (.iconst 5, 1) := by decide +kernel
theorem dX0_become_93 : decode cX0_become 93 = .ok (.invokestatic 41, 3) := by decide +kernel
theorem dX0_become_96 : decode cX0_become 96 = .ok (.return_, 1) := by decide +kernel
set_option maxRecDepth 20000 in
theorem dX0_isRed_0 : decode cX0_isRed 0 = .ok (.aload_n 0, 1) := by decide +kernel
theorem dX0_isRed_1 : decode cX0_isRed 1 = .ok (.getfield 24, 3) := by decide +kernel
theorem dX0_isRed_4 : decode cX0_isRed 4 = .ok (.iload_n 1, 1) := by decide +kernel
theorem dX0_isRed_5 : decode cX0_isRed 5 = .ok (.invokestatic 47, 3) := by decide +kernel
theorem dX0_isRed_8 : decode cX0_isRed 8 = .ok (.ireturn, 1) := by decide +kernel
set_option maxRecDepth 20000 in
theorem dX0_isHollow_0 : decode cX0_isHollow 0 = .ok (.aload_n 0, 1) := by decide +kernel
theorem dX0_isHollow_1 : decode cX0_isHollow 1 = .ok (.getfield 28, 3) := by decide +kernel
theorem dX0_isHollow_4 : decode cX0_isHollow 4 = .ok (.iload_n 1, 1) := by decide +kernel
theorem dX0_isHollow_5 : decode cX0_isHollow 5 = .ok (.invokestatic 47, 3) := by decide +kernel
theorem dX0_isHollow_8 : decode cX0_isHollow 8 = .ok (.ireturn, 1) := by decide +kernel
theorem dX0_whoIsOn_0 : decode cX0_whoIsOn 0 = .ok (.iconst 0, 1) := by decide +kernel
theorem dX0_whoIsOn_1 : decode cX0_whoIsOn 1 = .ok (.istore_n 2, 1) := by decide +kernel
theorem dX0_whoIsOn_2 : decode cX0_whoIsOn 2 = .ok (.iconst 0, 1) := by decide +kernel
theorem dX0_whoIsOn_3 : decode cX0_whoIsOn 3 = .ok (.istore_n 3, 1) := by decide +kernel
theorem dX0_whoIsOn_4 : decode cX0_whoIsOn 4 = .ok (.iload_n 3, 1) := by decide +kernel
theorem dX0_whoIsOn_5 : decode cX0_whoIsOn 5 = .ok (.aload_n 0, 1) := by decide +kernel
theorem dX0_whoIsOn_6 : decode cX0_whoIsOn 6 = .ok (.getfield 35, 3) := by decide +kernel
theorem dX0_whoIsOn_9 : decode cX0_whoIsOn 9 = .ok (.if_icmp .ge 29, 3) := by decide +kernel
theorem dX0_whoIsOn_12 : decode cX0_whoIsOn 12 = .ok (.iload_n 2, 1) := by decide +kernel
theorem dX0_whoIsOn_13 : decode cX0_whoIsOn 13 = .ok (.aload_n 0, 1) := by decide +kernel
theorem dX0_whoIsOn_14 : decode cX0_whoIsOn 14 = .ok (.getfield 18, 3) := by decide +kernel
theorem dX0_whoIsOn_17 : decode cX0_whoIsOn 17 = .ok (.iload_n 3, 1) := by decide +kernel
theorem dX0_whoIsOn_18 : decode cX0_whoIsOn 18 = .ok (.iaload, 1) := by decide +kernel
theorem dX0_whoIsOn_19 : decode cX0_whoIsOn 19 = .ok (.iload_n 1, 1) := by decide +kernel
theorem dX0_whoIsOn_20 : decode cX0_whoIsOn 20 = .ok (.if_icmp .ne 9, 3) := by decide +kernel
theorem dX0_whoIsOn_23 : decode cX0_whoIsOn 23 = .ok (.iconst 1, 1) := by decide +kernel
theorem dX0_whoIsOn_24 : decode cX0_whoIsOn 24 = .ok (.iload_n 3, 1) := by decide +kernel
theorem dX0_whoIsOn_25 : decode cX0_whoIsOn 25 = .ok (.ishl, 1) := by decide +kernel
theorem dX0_whoIsOn_26 : decode cX0_whoIsOn 26 = .ok (.goto 4, 3) := by decide +kernel
theorem dX0_whoIsOn_29 : decode cX0_whoIsOn 29 = .ok (.iconst 0, 1) := by decide +kernel
theorem dX0_whoIsOn_30 : decode cX0_whoIsOn 30 = .ok (.ior, 1) := by decide +kernel
theorem dX0_whoIsOn_31 : decode cX0_whoIsOn 31 = .ok (.istore_n 2, 1) := by decide +kernel
theorem dX0_whoIsOn_32 : decode cX0_whoIsOn 32 = .ok (.iinc 3 1, 3) := by decide +kernel
theorem dX0_whoIsOn_35 : decode cX0_whoIsOn 35 = .ok (.goto (-31), 3) := by decide +kernel
theorem dX0_whoIsOn_38 : decode cX0_whoIsOn 38 = .ok (.iload_n 2, 1) := by decide +kernel
theorem dX0_whoIsOn_39 : decode cX0_whoIsOn 39 = .ok (.ireturn, 1) := by decide +kernel
theorem dX0_stoodOn_0 : decode cX0_stoodOn 0 = .ok (.lconst 0, 1) := by decide +kernel
theorem dX0_stoodOn_1 : decode cX0_stoodOn 1 = .ok (.lstore_n 1, 1) := by decide +kernel
theorem dX0_stoodOn_2 : decode cX0_stoodOn 2 = .ok (.iconst 0, 1) := by decide +kernel
theorem dX0_stoodOn_3 : decode cX0_stoodOn 3 = .ok (.istore_n 3, 1) := by decide +kernel
theorem dX0_stoodOn_4 : decode cX0_stoodOn 4 = .ok (.iload_n 3, 1) := by decide +kernel
theorem dX0_stoodOn_5 : decode cX0_stoodOn 5 = .ok (.aload_n 0, 1) := by decide +kernel
theorem dX0_stoodOn_6 : decode cX0_stoodOn 6 = .ok (.getfield 35, 3) := by decide +kernel
theorem dX0_stoodOn_9 : decode cX0_stoodOn 9 = .ok (.if_icmp .ge 20, 3) := by decide +kernel
theorem dX0_stoodOn_12 : decode cX0_stoodOn 12 = .ok (.lload_n 1, 1) := by decide +kernel
theorem dX0_stoodOn_13 : decode cX0_stoodOn 13 = .ok (.lconst 1, 1) := by decide +kernel
theorem dX0_stoodOn_14 : decode cX0_stoodOn 14 = .ok (.aload_n 0, 1) := by decide +kernel
theorem dX0_stoodOn_15 : decode cX0_stoodOn 15 = .ok (.getfield 18, 3) := by decide +kernel
theorem dX0_stoodOn_18 : decode cX0_stoodOn 18 = .ok (.iload_n 3, 1) := by decide +kernel
theorem dX0_stoodOn_19 : decode cX0_stoodOn 19 = .ok (.iaload, 1) := by decide +kernel
theorem dX0_stoodOn_20 : decode cX0_stoodOn 20 = .ok (.lshl, 1) := by decide +kernel
theorem dX0_stoodOn_21 : decode cX0_stoodOn 21 = .ok (.lor, 1) := by decide +kernel
theorem dX0_stoodOn_22 : decode cX0_stoodOn 22 = .ok (.lstore_n 1, 1) := by decide +kernel
theorem dX0_stoodOn_23 : decode cX0_stoodOn 23 = .ok (.iinc 3 1, 3) := by decide +kernel
theorem dX0_stoodOn_26 : decode cX0_stoodOn 26 = .ok (.goto (-22), 3) := by decide +kernel
theorem dX0_stoodOn_29 : decode cX0_stoodOn 29 = .ok (.lload_n 1, 1) := by decide +kernel
theorem dX0_stoodOn_30 : decode cX0_stoodOn 30 = .ok (.lreturn, 1) := by decide +kernel
set_option maxRecDepth 20000 in
theorem dX0_isFoundBy_0 : decode cX0_isFoundBy 0 = .ok (.aload_n 0, 1) := by decide +kernel
theorem dX0_isFoundBy_1 : decode cX0_isFoundBy 1 = .ok (.iload_n 1, 1) := by decide +kernel
theorem dX0_isFoundBy_2 : decode cX0_isFoundBy 2 = .ok (.invokevirtual 51, 3) := by decide +kernel
theorem dX0_isFoundBy_5 : decode cX0_isFoundBy 5 = .ok (.ifCond .eq 5, 3) := by decide +kernel
theorem dX0_isFoundBy_8 : decode cX0_isFoundBy 8 = .ok (.iconst 2, 1) := by decide +kernel
theorem dX0_isFoundBy_9 : decode cX0_isFoundBy 9 = .ok (.ireturn, 1) := by decide +kernel
theorem dX0_isFoundBy_10 : decode cX0_isFoundBy 10 = .ok (.iload_n 1, 1) := by decide +kernel
theorem dX0_isFoundBy_11 : decode cX0_isFoundBy 11 = .ok (.bipush 8, 2) := by decide +kernel
theorem dX0_isFoundBy_13 : decode cX0_isFoundBy 13 = .ok (.irem, 1) := by decide +kernel
theorem dX0_isFoundBy_14 : decode cX0_isFoundBy 14 = .ok (.iload_n 1, 1) := by decide +kernel
theorem dX0_isFoundBy_15 : decode cX0_isFoundBy 15 = .ok (.bipush 8, 2) := by decide +kernel
theorem dX0_isFoundBy_17 : decode cX0_isFoundBy 17 = .ok (.idiv, 1) := by decide +kernel
theorem dX0_isFoundBy_18 : decode cX0_isFoundBy 18 = .ok (.iadd, 1) := by decide +kernel
theorem dX0_isFoundBy_19 : decode cX0_isFoundBy 19 = .ok (.iconst 2, 1) := by decide +kernel
theorem dX0_isFoundBy_20 : decode cX0_isFoundBy 20 = .ok (.irem, 1) := by decide +kernel
theorem dX0_isFoundBy_21 : decode cX0_isFoundBy 21 = .ok (.iconst 1, 1) := by decide +kernel
theorem dX0_isFoundBy_22 : decode cX0_isFoundBy 22 = .ok (.if_icmp .ne 7, 3) := by decide +kernel
theorem dX0_isFoundBy_25 : decode cX0_isFoundBy 25 = .ok (.iconst 1, 1) := by decide +kernel
theorem dX0_isFoundBy_26 : decode cX0_isFoundBy 26 = .ok (.goto 4, 3) := by decide +kernel
theorem dX0_isFoundBy_29 : decode cX0_isFoundBy 29 = .ok (.iconst 0, 1) := by decide +kernel
theorem dX0_isFoundBy_30 : decode cX0_isFoundBy 30 = .ok (.ireturn, 1) := by decide +kernel
set_option maxRecDepth 20000 in
theorem dX0_foundOf_0 : decode cX0_foundOf 0 = .ok (.aload_n 0, 1) := by decide +kernel
theorem dX0_foundOf_1 : decode cX0_foundOf 1 = .ok (.aload_n 0, 1) := by decide +kernel
theorem dX0_foundOf_2 : decode cX0_foundOf 2 = .ok (.getfield 18, 3) := by decide +kernel
theorem dX0_foundOf_5 : decode cX0_foundOf 5 = .ok (.iload_n 1, 1) := by decide +kernel
theorem dX0_foundOf_6 : decode cX0_foundOf 6 = .ok (.iaload, 1) := by decide +kernel
theorem dX0_foundOf_7 : decode cX0_foundOf 7 = .ok (.invokevirtual 55, 3) := by decide +kernel
theorem dX0_foundOf_10 : decode cX0_foundOf 10 = .ok (.istore_n 2, 1) := by decide +kernel
theorem dX0_foundOf_11 : decode cX0_foundOf 11 = .ok (.aload_n 0, 1) := by decide +kernel
theorem dX0_foundOf_12 : decode cX0_foundOf 12 = .ok (.getfield 9, 3) := by decide +kernel
theorem dX0_foundOf_15 : decode cX0_foundOf 15 = .ok (.iload_n 1, 1) := by decide +kernel
theorem dX0_foundOf_16 : decode cX0_foundOf 16 = .ok (.iaload, 1) := by decide +kernel
theorem dX0_foundOf_17 : decode cX0_foundOf 17 = .ok (.tableswitch 84 1 5 #[35, 84, 35, 56, 67], 35) := by decide +kernel
theorem dX0_foundOf_52 : decode cX0_foundOf 52 = .ok (.aload_n 0, 1) := by decide +kernel
theorem dX0_foundOf_53 : decode cX0_foundOf 53 = .ok (.getfield 21, 3) := by decide +kernel
theorem dX0_foundOf_56 : decode cX0_foundOf 56 = .ok (.iload_n 1, 1) := by decide +kernel
theorem dX0_foundOf_57 : decode cX0_foundOf 57 = .ok (.iaload, 1) := by decide +kernel
theorem dX0_foundOf_58 : decode cX0_foundOf 58 = .ok (.iconst 5, 1) := by decide +kernel
theorem dX0_foundOf_59 : decode cX0_foundOf 59 = .ok (.if_icmp .ge 12, 3) := by decide +kernel
theorem dX0_foundOf_62 : decode cX0_foundOf 62 = .ok (.iload_n 2, 1) := by decide +kernel
theorem dX0_foundOf_63 : decode cX0_foundOf 63 = .ok (.iconst 2, 1) := by decide +kernel
theorem dX0_foundOf_64 : decode cX0_foundOf 64 = .ok (.if_icmp .eq 7, 3) := by decide +kernel
theorem dX0_foundOf_67 : decode cX0_foundOf 67 = .ok (.iconst 1, 1) := by decide +kernel
theorem dX0_foundOf_68 : decode cX0_foundOf 68 = .ok (.goto 4, 3) := by decide +kernel
theorem dX0_foundOf_71 : decode cX0_foundOf 71 = .ok (.iload_n 2, 1) := by decide +kernel
theorem dX0_foundOf_72 : decode cX0_foundOf 72 = .ok (.ireturn, 1) := by decide +kernel
theorem dX0_foundOf_73 : decode cX0_foundOf 73 = .ok (.iload_n 2, 1) := by decide +kernel
theorem dX0_foundOf_74 : decode cX0_foundOf 74 = .ok (.iconst 2, 1) := by decide +kernel
theorem dX0_foundOf_75 : decode cX0_foundOf 75 = .ok (.if_icmp .ne 7, 3) := by decide +kernel
theorem dX0_foundOf_78 : decode cX0_foundOf 78 = .ok (.iconst 2, 1) := by decide +kernel
theorem dX0_foundOf_79 : decode cX0_foundOf 79 = .ok (.goto 4, 3) := by decide +kernel
theorem dX0_foundOf_82 : decode cX0_foundOf 82 = .ok (.iconst 0, 1) := by decide +kernel
theorem dX0_foundOf_83 : decode cX0_foundOf 83 = .ok (.ireturn, 1) := by decide +kernel
theorem dX0_foundOf_84 : decode cX0_foundOf 84 = .ok (.aload_n 0, 1) := by decide +kernel
theorem dX0_foundOf_85 : decode cX0_foundOf 85 = .ok (.getfield 21, 3) := by decide +kernel
theorem dX0_foundOf_88 : decode cX0_foundOf 88 = .ok (.iload_n 1, 1) := by decide +kernel
theorem dX0_foundOf_89 : decode cX0_foundOf 89 = .ok (.iaload, 1) := by decide +kernel
theorem dX0_foundOf_90 : decode cX0_foundOf 90 = .ok (.bipush 50, 2) := by decide +kernel
theorem dX0_foundOf_92 : decode cX0_foundOf 92 = .ok (.if_icmp .lt 7, 3) := by decide +kernel
theorem dX0_foundOf_95 : decode cX0_foundOf 95 = .ok (.iconst 2, 1) := by decide +kernel
theorem dX0_foundOf_96 : decode cX0_foundOf 96 = .ok (.goto 4, 3) := by decide +kernel
theorem dX0_foundOf_99 : decode cX0_foundOf 99 = .ok (.iload_n 2, 1) := by decide +kernel
theorem dX0_foundOf_100 : decode cX0_foundOf 100 = .ok (.ireturn, 1) := by decide +kernel
theorem dX0_foundOf_101 : decode cX0_foundOf 101 = .ok (.iload_n 2, 1) := by decide +kernel
theorem dX0_foundOf_102 : decode cX0_foundOf 102 = .ok (.ireturn, 1) := by decide +kernel
set_option maxRecDepth 20000 in
theorem dX0_howManyFound_0 : decode cX0_howManyFound 0 = .ok (.iconst 0, 1) := by decide +kernel
theorem dX0_howManyFound_1 : decode cX0_howManyFound 1 = .ok (.istore_n 2, 1) := by decide +kernel
theorem dX0_howManyFound_2 : decode cX0_howManyFound 2 = .ok (.iconst 0, 1) := by decide +kernel
theorem dX0_howManyFound_3 : decode cX0_howManyFound 3 = .ok (.istore_n 3, 1) := by decide +kernel
theorem dX0_howManyFound_4 : decode cX0_howManyFound 4 = .ok (.iload_n 3, 1) := by decide +kernel
theorem dX0_howManyFound_5 : decode cX0_howManyFound 5 = .ok (.aload_n 0, 1) := by decide +kernel
theorem dX0_howManyFound_6 : decode cX0_howManyFound 6 = .ok (.getfield 35, 3) := by decide +kernel
theorem dX0_howManyFound_9 : decode cX0_howManyFound 9 = .ok (.if_icmp .ge 26, 3) := by decide +kernel
theorem dX0_howManyFound_12 : decode cX0_howManyFound 12 = .ok (.iload_n 2, 1) := by decide +kernel
theorem dX0_howManyFound_13 : decode cX0_howManyFound 13 = .ok (.aload_n 0, 1) := by decide +kernel
theorem dX0_howManyFound_14 : decode cX0_howManyFound 14 = .ok (.iload_n 3, 1) := by decide +kernel
theorem dX0_howManyFound_15 : decode cX0_howManyFound 15 = .ok (.invokevirtual 59, 3) := by decide +kernel
theorem dX0_howManyFound_18 : decode cX0_howManyFound 18 = .ok (.iload_n 1, 1) := by decide +kernel
theorem dX0_howManyFound_19 : decode cX0_howManyFound 19 = .ok (.if_icmp .ne 7, 3) := by decide +kernel
theorem dX0_howManyFound_22 : decode cX0_howManyFound 22 = .ok (.iconst 1, 1) := by decide +kernel
theorem dX0_howManyFound_23 : decode cX0_howManyFound 23 = .ok (.goto 4, 3) := by decide +kernel
theorem dX0_howManyFound_26 : decode cX0_howManyFound 26 = .ok (.iconst 0, 1) := by decide +kernel
theorem dX0_howManyFound_27 : decode cX0_howManyFound 27 = .ok (.iadd, 1) := by decide +kernel
theorem dX0_howManyFound_28 : decode cX0_howManyFound 28 = .ok (.istore_n 2, 1) := by decide +kernel
theorem dX0_howManyFound_29 : decode cX0_howManyFound 29 = .ok (.iinc 3 1, 3) := by decide +kernel
theorem dX0_howManyFound_32 : decode cX0_howManyFound 32 = .ok (.goto (-28), 3) := by decide +kernel
theorem dX0_howManyFound_35 : decode cX0_howManyFound 35 = .ok (.iload_n 2, 1) := by decide +kernel
theorem dX0_howManyFound_36 : decode cX0_howManyFound 36 = .ok (.ireturn, 1) := by decide +kernel
set_option maxRecDepth 20000 in
theorem dX0_landing_0 : decode cX0_landing 0 = .ok (.aload_n 0, 1) := by decide +kernel
theorem dX0_landing_1 : decode cX0_landing 1 = .ok (.iload_n 1, 1) := by decide +kernel
theorem dX0_landing_2 : decode cX0_landing 2 = .ok (.iload_n 3, 1) := by decide +kernel
theorem dX0_landing_3 : decode cX0_landing 3 = .ok (.invokevirtual 62, 3) := by decide +kernel
theorem dX0_landing_6 : decode cX0_landing 6 = .ok (.ifCond .ne 5, 3) := by decide +kernel
theorem dX0_landing_9 : decode cX0_landing 9 = .ok (.iconst (-1), 1) := by decide +kernel
theorem dX0_landing_10 : decode cX0_landing 10 = .ok (.ireturn, 1) := by decide +kernel
theorem dX0_landing_11 : decode cX0_landing 11 = .ok (.getstatic 66, 3) := by decide +kernel
theorem dX0_landing_14 : decode cX0_landing 14 = .ok (.iload_n 3, 1) := by decide +kernel
theorem dX0_landing_15 : decode cX0_landing 15 = .ok (.iaload, 1) := by decide +kernel
theorem dX0_landing_16 : decode cX0_landing 16 = .ok (.istore 4, 2) := by decide +kernel
theorem dX0_landing_18 : decode cX0_landing 18 = .ok (.getstatic 69, 3) := by decide +kernel
theorem dX0_landing_21 : decode cX0_landing 21 = .ok (.iload_n 3, 1) := by decide +kernel
theorem dX0_landing_22 : decode cX0_landing 22 = .ok (.iaload, 1) := by decide +kernel
theorem dX0_landing_23 : decode cX0_landing 23 = .ok (.istore 5, 2) := by decide +kernel
theorem dX0_landing_25 : decode cX0_landing 25 = .ok (.aload_n 0, 1) := by decide +kernel
theorem dX0_landing_26 : decode cX0_landing 26 = .ok (.getfield 9, 3) := by decide +kernel
theorem dX0_landing_29 : decode cX0_landing 29 = .ok (.iload_n 1, 1) := by decide +kernel
theorem dX0_landing_30 : decode cX0_landing 30 = .ok (.iaload, 1) := by decide +kernel
theorem dX0_landing_31 : decode cX0_landing 31 = .ok (.iconst 1, 1) := by decide +kernel
theorem dX0_landing_32 : decode cX0_landing 32 = .ok (.if_icmp .eq 13, 3) := by decide +kernel
theorem dX0_landing_35 : decode cX0_landing 35 = .ok (.aload_n 0, 1) := by decide +kernel
theorem dX0_landing_36 : decode cX0_landing 36 = .ok (.getfield 9, 3) := by decide +kernel
theorem dX0_landing_39 : decode cX0_landing 39 = .ok (.iload_n 1, 1) := by decide +kernel
theorem dX0_landing_40 : decode cX0_landing 40 = .ok (.iaload, 1) := by decide +kernel
theorem dX0_landing_41 : decode cX0_landing 41 = .ok (.iconst 3, 1) := by decide +kernel
theorem dX0_landing_42 : decode cX0_landing 42 = .ok (.if_icmp .ne 20, 3) := by decide +kernel
theorem dX0_landing_45 : decode cX0_landing 45 = .ok (.getstatic 72, 3) := by decide +kernel
theorem dX0_landing_48 : decode cX0_landing 48 = .ok (.iload_n 3, 1) := by decide +kernel
theorem dX0_landing_49 : decode cX0_landing 49 = .ok (.iaload, 1) := by decide +kernel
theorem dX0_landing_50 : decode cX0_landing 50 = .ok (.istore 4, 2) := by decide +kernel
theorem dX0_landing_52 : decode cX0_landing 52 = .ok (.getstatic 75, 3) := by decide +kernel
theorem dX0_landing_55 : decode cX0_landing 55 = .ok (.iload_n 3, 1) := by decide +kernel
theorem dX0_landing_56 : decode cX0_landing 56 = .ok (.iaload, 1) := by decide +kernel
theorem dX0_landing_57 : decode cX0_landing 57 = .ok (.istore 5, 2) := by decide +kernel
theorem dX0_landing_59 : decode cX0_landing 59 = .ok (.goto 37, 3) := by decide +kernel
theorem dX0_landing_62 : decode cX0_landing 62 = .ok (.aload_n 0, 1) := by decide +kernel
theorem dX0_landing_63 : decode cX0_landing 63 = .ok (.getfield 9, 3) := by decide +kernel
theorem dX0_landing_66 : decode cX0_landing 66 = .ok (.iload_n 1, 1) := by decide +kernel
theorem dX0_landing_67 : decode cX0_landing 67 = .ok (.iaload, 1) := by decide +kernel
theorem dX0_landing_68 : decode cX0_landing 68 = .ok (.iconst 2, 1) := by decide +kernel
theorem dX0_landing_69 : decode cX0_landing 69 = .ok (.if_icmp .eq 13, 3) := by decide +kernel
theorem dX0_landing_72 : decode cX0_landing 72 = .ok (.aload_n 0, 1) := by decide +kernel
theorem dX0_landing_73 : decode cX0_landing 73 = .ok (.getfield 9, 3) := by decide +kernel
theorem dX0_landing_76 : decode cX0_landing 76 = .ok (.iload_n 1, 1) := by decide +kernel
theorem dX0_landing_77 : decode cX0_landing 77 = .ok (.iaload, 1) := by decide +kernel
theorem dX0_landing_78 : decode cX0_landing 78 = .ok (.iconst 4, 1) := by decide +kernel
theorem dX0_landing_79 : decode cX0_landing 79 = .ok (.if_icmp .ne 17, 3) := by decide +kernel
theorem dX0_landing_82 : decode cX0_landing 82 = .ok (.getstatic 78, 3) := by decide +kernel
theorem dX0_landing_85 : decode cX0_landing 85 = .ok (.iload_n 3, 1) := by decide +kernel
theorem dX0_landing_86 : decode cX0_landing 86 = .ok (.iaload, 1) := by decide +kernel
theorem dX0_landing_87 : decode cX0_landing 87 = .ok (.istore 4, 2) := by decide +kernel
theorem dX0_landing_89 : decode cX0_landing 89 = .ok (.getstatic 81, 3) := by decide +kernel
theorem dX0_landing_92 : decode cX0_landing 92 = .ok (.iload_n 3, 1) := by decide +kernel
theorem dX0_landing_93 : decode cX0_landing 93 = .ok (.iaload, 1) := by decide +kernel
theorem dX0_landing_94 : decode cX0_landing 94 = .ok (.istore 5, 2) := by decide +kernel
theorem dX0_landing_96 : decode cX0_landing 96 = .ok (.iload_n 2, 1) := by decide +kernel
theorem dX0_landing_97 : decode cX0_landing 97 = .ok (.bipush 8, 2) := by decide +kernel
theorem dX0_landing_99 : decode cX0_landing 99 = .ok (.irem, 1) := by decide +kernel
theorem dX0_landing_100 : decode cX0_landing 100 = .ok (.iload 4, 2) := by decide +kernel
theorem dX0_landing_102 : decode cX0_landing 102 = .ok (.iadd, 1) := by decide +kernel
theorem dX0_landing_103 : decode cX0_landing 103 = .ok (.istore 6, 2) := by decide +kernel
theorem dX0_landing_105 : decode cX0_landing 105 = .ok (.iload_n 2, 1) := by decide +kernel
theorem dX0_landing_106 : decode cX0_landing 106 = .ok (.bipush 8, 2) := by decide +kernel
theorem dX0_landing_108 : decode cX0_landing 108 = .ok (.idiv, 1) := by decide +kernel
theorem dX0_landing_109 : decode cX0_landing 109 = .ok (.iload 5, 2) := by decide +kernel
theorem dX0_landing_111 : decode cX0_landing 111 = .ok (.iadd, 1) := by decide +kernel
theorem dX0_landing_112 : decode cX0_landing 112 = .ok (.istore 7, 2) := by decide +kernel
theorem dX0_landing_114 : decode cX0_landing 114 = .ok (.iload 6, 2) := by decide +kernel
theorem dX0_landing_116 : decode cX0_landing 116 = .ok (.bipush 7, 2) := by decide +kernel
theorem dX0_landing_118 : decode cX0_landing 118 = .ok (.invokestatic 84, 3) := by decide +kernel
theorem dX0_landing_121 : decode cX0_landing 121 = .ok (.ifCond .eq 28, 3) := by decide +kernel
theorem dX0_landing_124 : decode cX0_landing 124 = .ok (.iload 7, 2) := by decide +kernel
theorem dX0_landing_126 : decode cX0_landing 126 = .ok (.bipush 7, 2) := by decide +kernel
theorem dX0_landing_128 : decode cX0_landing 128 = .ok (.invokestatic 84, 3) := by decide +kernel
theorem dX0_landing_131 : decode cX0_landing 131 = .ok (.ifCond .eq 18, 3) := by decide +kernel
theorem dX0_landing_134 : decode cX0_landing 134 = .ok (.aload_n 0, 1) := by decide +kernel
theorem dX0_landing_135 : decode cX0_landing 135 = .ok (.bipush 8, 2) := by decide +kernel
theorem dX0_landing_137 : decode cX0_landing 137 = .ok (.iload 7, 2) := by decide +kernel
theorem dX0_landing_139 : decode cX0_landing 139 = .ok (.imul, 1) := by decide +kernel
theorem dX0_landing_140 : decode cX0_landing 140 = .ok (.iload 6, 2) := by decide +kernel
theorem dX0_landing_142 : decode cX0_landing 142 = .ok (.iadd, 1) := by decide +kernel
theorem dX0_landing_143 : decode cX0_landing 143 = .ok (.invokevirtual 87, 3) := by decide +kernel
theorem dX0_landing_146 : decode cX0_landing 146 = .ok (.ifCond .eq 5, 3) := by decide +kernel
theorem dX0_landing_149 : decode cX0_landing 149 = .ok (.iconst (-1), 1) := by decide +kernel
theorem dX0_landing_150 : decode cX0_landing 150 = .ok (.ireturn, 1) := by decide +kernel
theorem dX0_landing_151 : decode cX0_landing 151 = .ok (.bipush 8, 2) := by decide +kernel
theorem dX0_landing_153 : decode cX0_landing 153 = .ok (.iload 7, 2) := by decide +kernel
theorem dX0_landing_155 : decode cX0_landing 155 = .ok (.imul, 1) := by decide +kernel
theorem dX0_landing_156 : decode cX0_landing 156 = .ok (.iload 6, 2) := by decide +kernel
theorem dX0_landing_158 : decode cX0_landing 158 = .ok (.iadd, 1) := by decide +kernel
theorem dX0_landing_159 : decode cX0_landing 159 = .ok (.ireturn, 1) := by decide +kernel
theorem dX0_leapsBy_0 : decode cX0_leapsBy 0 = .ok (.aload_n 0, 1) := by decide +kernel
theorem dX0_leapsBy_1 : decode cX0_leapsBy 1 = .ok (.getfield 9, 3) := by decide +kernel
theorem dX0_leapsBy_4 : decode cX0_leapsBy 4 = .ok (.iload_n 1, 1) := by decide +kernel
theorem dX0_leapsBy_5 : decode cX0_leapsBy 5 = .ok (.iaload, 1) := by decide +kernel
theorem dX0_leapsBy_6 : decode cX0_leapsBy 6 = .ok (.tableswitch 96 2 5 #[30, 42, 58, 79], 30) := by decide +kernel
theorem dX0_leapsBy_36 : decode cX0_leapsBy 36 = .ok (.iload_n 2, 1) := by decide +kernel
theorem dX0_leapsBy_37 : decode cX0_leapsBy 37 = .ok (.iconst 2, 1) := by decide +kernel
theorem dX0_leapsBy_38 : decode cX0_leapsBy 38 = .ok (.irem, 1) := by decide +kernel
theorem dX0_leapsBy_39 : decode cX0_leapsBy 39 = .ok (.ifCond .ne 7, 3) := by decide +kernel
theorem dX0_leapsBy_42 : decode cX0_leapsBy 42 = .ok (.iconst 1, 1) := by decide +kernel
theorem dX0_leapsBy_43 : decode cX0_leapsBy 43 = .ok (.goto 4, 3) := by decide +kernel
theorem dX0_leapsBy_46 : decode cX0_leapsBy 46 = .ok (.iconst 0, 1) := by decide +kernel
theorem dX0_leapsBy_47 : decode cX0_leapsBy 47 = .ok (.ireturn, 1) := by decide +kernel
theorem dX0_leapsBy_48 : decode cX0_leapsBy 48 = .ok (.iload_n 2, 1) := by decide +kernel
theorem dX0_leapsBy_49 : decode cX0_leapsBy 49 = .ok (.aload_n 0, 1) := by decide +kernel
theorem dX0_leapsBy_50 : decode cX0_leapsBy 50 = .ok (.getfield 15, 3) := by decide +kernel
theorem dX0_leapsBy_53 : decode cX0_leapsBy 53 = .ok (.iload_n 1, 1) := by decide +kernel
theorem dX0_leapsBy_54 : decode cX0_leapsBy 54 = .ok (.iaload, 1) := by decide +kernel
theorem dX0_leapsBy_55 : decode cX0_leapsBy 55 = .ok (.if_icmp .eq 7, 3) := by decide +kernel
theorem dX0_leapsBy_58 : decode cX0_leapsBy 58 = .ok (.iconst 1, 1) := by decide +kernel
theorem dX0_leapsBy_59 : decode cX0_leapsBy 59 = .ok (.goto 4, 3) := by decide +kernel
theorem dX0_leapsBy_62 : decode cX0_leapsBy 62 = .ok (.iconst 0, 1) := by decide +kernel
theorem dX0_leapsBy_63 : decode cX0_leapsBy 63 = .ok (.ireturn, 1) := by decide +kernel
theorem dX0_leapsBy_64 : decode cX0_leapsBy 64 = .ok (.iload_n 2, 1) := by decide +kernel
theorem dX0_leapsBy_65 : decode cX0_leapsBy 65 = .ok (.iconst 2, 1) := by decide +kernel
theorem dX0_leapsBy_66 : decode cX0_leapsBy 66 = .ok (.irem, 1) := by decide +kernel
theorem dX0_leapsBy_67 : decode cX0_leapsBy 67 = .ok (.ifCond .ne 16, 3) := by decide +kernel
theorem dX0_leapsBy_70 : decode cX0_leapsBy 70 = .ok (.aload_n 0, 1) := by decide +kernel
theorem dX0_leapsBy_71 : decode cX0_leapsBy 71 = .ok (.getfield 31, 3) := by decide +kernel
theorem dX0_leapsBy_74 : decode cX0_leapsBy 74 = .ok (.iconst 2, 1) := by decide +kernel
theorem dX0_leapsBy_75 : decode cX0_leapsBy 75 = .ok (.irem, 1) := by decide +kernel
theorem dX0_leapsBy_76 : decode cX0_leapsBy 76 = .ok (.ifCond .ne 7, 3) := by decide +kernel
theorem dX0_leapsBy_79 : decode cX0_leapsBy 79 = .ok (.iconst 1, 1) := by decide +kernel
theorem dX0_leapsBy_80 : decode cX0_leapsBy 80 = .ok (.goto 4, 3) := by decide +kernel
theorem dX0_leapsBy_83 : decode cX0_leapsBy 83 = .ok (.iconst 0, 1) := by decide +kernel
theorem dX0_leapsBy_84 : decode cX0_leapsBy 84 = .ok (.ireturn, 1) := by decide +kernel
theorem dX0_leapsBy_85 : decode cX0_leapsBy 85 = .ok (.aload_n 0, 1) := by decide +kernel
theorem dX0_leapsBy_86 : decode cX0_leapsBy 86 = .ok (.getfield 21, 3) := by decide +kernel
theorem dX0_leapsBy_89 : decode cX0_leapsBy 89 = .ok (.iload_n 1, 1) := by decide +kernel
theorem dX0_leapsBy_90 : decode cX0_leapsBy 90 = .ok (.iaload, 1) := by decide +kernel
theorem dX0_leapsBy_91 : decode cX0_leapsBy 91 = .ok (.bipush 50, 2) := by decide +kernel
theorem dX0_leapsBy_93 : decode cX0_leapsBy 93 = .ok (.if_icmp .ge 7, 3) := by decide +kernel
theorem dX0_leapsBy_96 : decode cX0_leapsBy 96 = .ok (.iconst 1, 1) := by decide +kernel
theorem dX0_leapsBy_97 : decode cX0_leapsBy 97 = .ok (.goto 4, 3) := by decide +kernel
theorem dX0_leapsBy_100 : decode cX0_leapsBy 100 = .ok (.iconst 0, 1) := by decide +kernel
theorem dX0_leapsBy_101 : decode cX0_leapsBy 101 = .ok (.ireturn, 1) := by decide +kernel
theorem dX0_leapsBy_102 : decode cX0_leapsBy 102 = .ok (.iconst 1, 1) := by decide +kernel
theorem dX0_leapsBy_103 : decode cX0_leapsBy 103 = .ok (.ireturn, 1) := by decide +kernel
set_option maxRecDepth 20000 in
theorem dX0_aLeapFurther_0 : decode cX0_aLeapFurther 0 = .ok (.lload_n 2, 1) := by decide +kernel
theorem dX0_aLeapFurther_1 : decode cX0_aLeapFurther 1 = .ok (.lstore 4, 2) := by decide +kernel
theorem dX0_aLeapFurther_3 : decode cX0_aLeapFurther 3 = .ok (.iconst 0, 1) := by decide +kernel
theorem dX0_aLeapFurther_4 : decode cX0_aLeapFurther 4 = .ok (.istore 6, 2) := by decide +kernel
theorem dX0_aLeapFurther_6 : decode cX0_aLeapFurther 6 = .ok (.iload 6, 2) := by decide +kernel
theorem dX0_aLeapFurther_8 : decode cX0_aLeapFurther 8 = .ok (.bipush 64, 2) := by decide +kernel
theorem dX0_aLeapFurther_10 : decode cX0_aLeapFurther 10 = .ok (.if_icmp .ge 64, 3) := by decide +kernel
theorem dX0_aLeapFurther_13 : decode cX0_aLeapFurther 13 = .ok (.iconst 0, 1) := by decide +kernel
theorem dX0_aLeapFurther_14 : decode cX0_aLeapFurther 14 = .ok (.istore 7, 2) := by decide +kernel
theorem dX0_aLeapFurther_16 : decode cX0_aLeapFurther 16 = .ok (.iload 7, 2) := by decide +kernel
theorem dX0_aLeapFurther_18 : decode cX0_aLeapFurther 18 = .ok (.bipush 8, 2) := by decide +kernel
theorem dX0_aLeapFurther_20 : decode cX0_aLeapFurther 20 = .ok (.if_icmp .ge 48, 3) := by decide +kernel
theorem dX0_aLeapFurther_23 : decode cX0_aLeapFurther 23 = .ok (.lload_n 2, 1) := by decide +kernel
theorem dX0_aLeapFurther_24 : decode cX0_aLeapFurther 24 = .ok (.iload 6, 2) := by decide +kernel
theorem dX0_aLeapFurther_26 : decode cX0_aLeapFurther 26 = .ok (.invokestatic 47, 3) := by decide +kernel
theorem dX0_aLeapFurther_29 : decode cX0_aLeapFurther 29 = .ok (.ifCond .eq 39, 3) := by decide +kernel
theorem dX0_aLeapFurther_32 : decode cX0_aLeapFurther 32 = .ok (.aload_n 0, 1) := by decide +kernel
theorem dX0_aLeapFurther_33 : decode cX0_aLeapFurther 33 = .ok (.iload_n 1, 1) := by decide +kernel
theorem dX0_aLeapFurther_34 : decode cX0_aLeapFurther 34 = .ok (.iload 6, 2) := by decide +kernel
theorem dX0_aLeapFurther_36 : decode cX0_aLeapFurther 36 = .ok (.iload 7, 2) := by decide +kernel
theorem dX0_aLeapFurther_38 : decode cX0_aLeapFurther 38 = .ok (.invokevirtual 90, 3) := by decide +kernel
theorem dX0_aLeapFurther_41 : decode cX0_aLeapFurther 41 = .ok (.istore 8, 2) := by decide +kernel
theorem dX0_aLeapFurther_43 : decode cX0_aLeapFurther 43 = .ok (.lload 4, 2) := by decide +kernel
theorem dX0_aLeapFurther_45 : decode cX0_aLeapFurther 45 = .ok (.iload 8, 2) := by decide +kernel
theorem dX0_aLeapFurther_47 : decode cX0_aLeapFurther 47 = .ok (.iconst (-1), 1) := by decide +kernel
theorem dX0_aLeapFurther_48 : decode cX0_aLeapFurther 48 = .ok (.if_icmp .ne 7, 3) := by decide +kernel
theorem dX0_aLeapFurther_51 : decode cX0_aLeapFurther 51 = .ok (.lconst 0, 1) := by decide +kernel
theorem dX0_aLeapFurther_52 : decode cX0_aLeapFurther 52 = .ok (.goto 7, 3) := by decide +kernel
theorem dX0_aLeapFurther_55 : decode cX0_aLeapFurther 55 = .ok (.lconst 1, 1) := by decide +kernel
theorem dX0_aLeapFurther_56 : decode cX0_aLeapFurther 56 = .ok (.iload 8, 2) := by decide +kernel
theorem dX0_aLeapFurther_58 : decode cX0_aLeapFurther 58 = .ok (.lshl, 1) := by decide +kernel
theorem dX0_aLeapFurther_59 : decode cX0_aLeapFurther 59 = .ok (.lor, 1) := by decide +kernel
theorem dX0_aLeapFurther_60 : decode cX0_aLeapFurther 60 = .ok (.lstore 4, 2) := by decide +kernel
theorem dX0_aLeapFurther_62 : decode cX0_aLeapFurther 62 = .ok (.iinc 7 1, 3) := by decide +kernel
theorem dX0_aLeapFurther_65 : decode cX0_aLeapFurther 65 = .ok (.goto (-49), 3) := by decide +kernel
theorem dX0_aLeapFurther_68 : decode cX0_aLeapFurther 68 = .ok (.iinc 6 1, 3) := by decide +kernel
theorem dX0_aLeapFurther_71 : decode cX0_aLeapFurther 71 = .ok (.goto (-65), 3) := by decide +kernel
theorem dX0_aLeapFurther_74 : decode cX0_aLeapFurther 74 = .ok (.lload 4, 2) := by decide +kernel
theorem dX0_aLeapFurther_76 : decode cX0_aLeapFurther 76 = .ok (.lreturn, 1) := by decide +kernel
set_option maxRecDepth 20000 in
theorem dX0_whereDrawn_0 : decode cX0_whereDrawn 0 = .ok (.iload_n 1, 1) := by decide +kernel
theorem dX0_whereDrawn_1 : decode cX0_whereDrawn 1 = .ok (.istore 4, 2) := by decide +kernel
theorem dX0_whereDrawn_3 : decode cX0_whereDrawn 3 = .ok (.aload_n 0, 1) := by decide +kernel
theorem dX0_whereDrawn_4 : decode cX0_whereDrawn 4 = .ok (.getfield 18, 3) := by decide +kernel
theorem dX0_whereDrawn_7 : decode cX0_whereDrawn 7 = .ok (.iload_n 2, 1) := by decide +kernel
theorem dX0_whereDrawn_8 : decode cX0_whereDrawn 8 = .ok (.iaload, 1) := by decide +kernel
theorem dX0_whereDrawn_9 : decode cX0_whereDrawn 9 = .ok (.istore 5, 2) := by decide +kernel
theorem dX0_whereDrawn_11 : decode cX0_whereDrawn 11 = .ok (.iconst 0, 1) := by decide +kernel
theorem dX0_whereDrawn_12 : decode cX0_whereDrawn 12 = .ok (.istore 6, 2) := by decide +kernel
theorem dX0_whereDrawn_14 : decode cX0_whereDrawn 14 = .ok (.iload 6, 2) := by decide +kernel
theorem dX0_whereDrawn_16 : decode cX0_whereDrawn 16 = .ok (.iload_n 3, 1) := by decide +kernel
theorem dX0_whereDrawn_17 : decode cX0_whereDrawn 17 = .ok (.if_icmp .ge 52, 3) := by decide +kernel
theorem dX0_whereDrawn_20 : decode cX0_whereDrawn 20 = .ok (.iload 4, 2) := by decide +kernel
theorem dX0_whereDrawn_22 : decode cX0_whereDrawn 22 = .ok (.ldc 94, 2) := by decide +kernel
theorem dX0_whereDrawn_24 : decode cX0_whereDrawn 24 = .ok (.imul, 1) := by decide +kernel
theorem dX0_whereDrawn_25 : decode cX0_whereDrawn 25 = .ok (.sipush 12345, 3) := by decide +kernel
theorem dX0_whereDrawn_28 : decode cX0_whereDrawn 28 = .ok (.iadd, 1) := by decide +kernel
theorem dX0_whereDrawn_29 : decode cX0_whereDrawn 29 = .ok (.istore 4, 2) := by decide +kernel
theorem dX0_whereDrawn_31 : decode cX0_whereDrawn 31 = .ok (.aload_n 0, 1) := by decide +kernel
theorem dX0_whereDrawn_32 : decode cX0_whereDrawn 32 = .ok (.iload_n 2, 1) := by decide +kernel
theorem dX0_whereDrawn_33 : decode cX0_whereDrawn 33 = .ok (.iload 5, 2) := by decide +kernel
theorem dX0_whereDrawn_35 : decode cX0_whereDrawn 35 = .ok (.iload 4, 2) := by decide +kernel
theorem dX0_whereDrawn_37 : decode cX0_whereDrawn 37 = .ok (.bipush 9, 2) := by decide +kernel
theorem dX0_whereDrawn_39 : decode cX0_whereDrawn 39 = .ok (.iushr, 1) := by decide +kernel
theorem dX0_whereDrawn_40 : decode cX0_whereDrawn 40 = .ok (.bipush 8, 2) := by decide +kernel
theorem dX0_whereDrawn_42 : decode cX0_whereDrawn 42 = .ok (.irem, 1) := by decide +kernel
theorem dX0_whereDrawn_43 : decode cX0_whereDrawn 43 = .ok (.invokevirtual 90, 3) := by decide +kernel
theorem dX0_whereDrawn_46 : decode cX0_whereDrawn 46 = .ok (.istore 7, 2) := by decide +kernel
theorem dX0_whereDrawn_48 : decode cX0_whereDrawn 48 = .ok (.iload 7, 2) := by decide +kernel
theorem dX0_whereDrawn_50 : decode cX0_whereDrawn 50 = .ok (.iconst (-1), 1) := by decide +kernel
theorem dX0_whereDrawn_51 : decode cX0_whereDrawn 51 = .ok (.if_icmp .ne 8, 3) := by decide +kernel
theorem dX0_whereDrawn_54 : decode cX0_whereDrawn 54 = .ok (.iload 5, 2) := by decide +kernel
theorem dX0_whereDrawn_56 : decode cX0_whereDrawn 56 = .ok (.goto 5, 3) := by decide +kernel
theorem dX0_whereDrawn_59 : decode cX0_whereDrawn 59 = .ok (.iload 7, 2) := by decide +kernel
theorem dX0_whereDrawn_61 : decode cX0_whereDrawn 61 = .ok (.istore 5, 2) := by decide +kernel
theorem dX0_whereDrawn_63 : decode cX0_whereDrawn 63 = .ok (.iinc 6 1, 3) := by decide +kernel
theorem dX0_whereDrawn_66 : decode cX0_whereDrawn 66 = .ok (.goto (-52), 3) := by decide +kernel
theorem dX0_whereDrawn_69 : decode cX0_whereDrawn 69 = .ok (.iload 5, 2) := by decide +kernel
theorem dX0_whereDrawn_71 : decode cX0_whereDrawn 71 = .ok (.ireturn, 1) := by decide +kernel
theorem dX0_tires_0 : decode cX0_tires 0 = .ok (.aload_n 0, 1) := by decide +kernel
theorem dX0_tires_1 : decode cX0_tires 1 = .ok (.getfield 9, 3) := by decide +kernel
theorem dX0_tires_4 : decode cX0_tires 4 = .ok (.iload_n 1, 1) := by decide +kernel
theorem dX0_tires_5 : decode cX0_tires 5 = .ok (.iaload, 1) := by decide +kernel
theorem dX0_tires_6 : decode cX0_tires 6 = .ok (.tableswitch 64 1 5 #[34, 38, 42, 53, 59], 34) := by decide +kernel
theorem dX0_tires_40 : decode cX0_tires 40 = .ok (.iload_n 2, 1) := by decide +kernel
theorem dX0_tires_41 : decode cX0_tires 41 = .ok (.iconst 2, 1) := by decide +kernel
theorem dX0_tires_42 : decode cX0_tires 42 = .ok (.idiv, 1) := by decide +kernel
theorem dX0_tires_43 : decode cX0_tires 43 = .ok (.ireturn, 1) := by decide +kernel
theorem dX0_tires_44 : decode cX0_tires 44 = .ok (.iload_n 2, 1) := by decide +kernel
theorem dX0_tires_45 : decode cX0_tires 45 = .ok (.iconst 1, 1) := by decide +kernel
theorem dX0_tires_46 : decode cX0_tires 46 = .ok (.iadd, 1) := by decide +kernel
theorem dX0_tires_47 : decode cX0_tires 47 = .ok (.ireturn, 1) := by decide +kernel
theorem dX0_tires_48 : decode cX0_tires 48 = .ok (.iload_n 2, 1) := by decide +kernel
theorem dX0_tires_49 : decode cX0_tires 49 = .ok (.iconst 2, 1) := by decide +kernel
theorem dX0_tires_50 : decode cX0_tires 50 = .ok (.idiv, 1) := by decide +kernel
theorem dX0_tires_51 : decode cX0_tires 51 = .ok (.aload_n 0, 1) := by decide +kernel
theorem dX0_tires_52 : decode cX0_tires 52 = .ok (.getfield 15, 3) := by decide +kernel
theorem dX0_tires_55 : decode cX0_tires 55 = .ok (.iload_n 1, 1) := by decide +kernel
theorem dX0_tires_56 : decode cX0_tires 56 = .ok (.iaload, 1) := by decide +kernel
theorem dX0_tires_57 : decode cX0_tires 57 = .ok (.iadd, 1) := by decide +kernel
theorem dX0_tires_58 : decode cX0_tires 58 = .ok (.ireturn, 1) := by decide +kernel
theorem dX0_tires_59 : decode cX0_tires 59 = .ok (.iconst 2, 1) := by decide +kernel
theorem dX0_tires_60 : decode cX0_tires 60 = .ok (.iload_n 2, 1) := by decide +kernel
theorem dX0_tires_61 : decode cX0_tires 61 = .ok (.iconst 1, 1) := by decide +kernel
theorem dX0_tires_62 : decode cX0_tires 62 = .ok (.iadd, 1) := by decide +kernel
theorem dX0_tires_63 : decode cX0_tires 63 = .ok (.imul, 1) := by decide +kernel
theorem dX0_tires_64 : decode cX0_tires 64 = .ok (.ireturn, 1) := by decide +kernel
theorem dX0_tires_65 : decode cX0_tires 65 = .ok (.iload_n 2, 1) := by decide +kernel
theorem dX0_tires_66 : decode cX0_tires 66 = .ok (.bipush 10, 2) := by decide +kernel
theorem dX0_tires_68 : decode cX0_tires 68 = .ok (.iadd, 1) := by decide +kernel
theorem dX0_tires_69 : decode cX0_tires 69 = .ok (.ireturn, 1) := by decide +kernel
theorem dX0_tires_70 : decode cX0_tires 70 = .ok (.iload_n 2, 1) := by decide +kernel
theorem dX0_tires_71 : decode cX0_tires 71 = .ok (.ireturn, 1) := by decide +kernel
theorem dX0_rests_0 : decode cX0_rests 0 = .ok (.aload_n 0, 1) := by decide +kernel
theorem dX0_rests_1 : decode cX0_rests 1 = .ok (.getfield 9, 3) := by decide +kernel
theorem dX0_rests_4 : decode cX0_rests 4 = .ok (.iload_n 1, 1) := by decide +kernel
theorem dX0_rests_5 : decode cX0_rests 5 = .ok (.iaload, 1) := by decide +kernel
theorem dX0_rests_6 : decode cX0_rests 6 = .ok (.tableswitch 47 2 5 #[30, 32, 36, 43], 30) := by decide +kernel
theorem dX0_rests_36 : decode cX0_rests 36 = .ok (.iconst 0, 1) := by decide +kernel
theorem dX0_rests_37 : decode cX0_rests 37 = .ok (.ireturn, 1) := by decide +kernel
theorem dX0_rests_38 : decode cX0_rests 38 = .ok (.iload_n 2, 1) := by decide +kernel
theorem dX0_rests_39 : decode cX0_rests 39 = .ok (.iconst 2, 1) := by decide +kernel
theorem dX0_rests_40 : decode cX0_rests 40 = .ok (.idiv, 1) := by decide +kernel
theorem dX0_rests_41 : decode cX0_rests 41 = .ok (.ireturn, 1) := by decide +kernel
theorem dX0_rests_42 : decode cX0_rests 42 = .ok (.aload_n 0, 1) := by decide +kernel
theorem dX0_rests_43 : decode cX0_rests 43 = .ok (.getfield 15, 3) := by decide +kernel
theorem dX0_rests_46 : decode cX0_rests 46 = .ok (.iload_n 1, 1) := by decide +kernel
theorem dX0_rests_47 : decode cX0_rests 47 = .ok (.iaload, 1) := by decide +kernel
theorem dX0_rests_48 : decode cX0_rests 48 = .ok (.ireturn, 1) := by decide +kernel
theorem dX0_rests_49 : decode cX0_rests 49 = .ok (.iconst 2, 1) := by decide +kernel
theorem dX0_rests_50 : decode cX0_rests 50 = .ok (.iload_n 2, 1) := by decide +kernel
theorem dX0_rests_51 : decode cX0_rests 51 = .ok (.imul, 1) := by decide +kernel
theorem dX0_rests_52 : decode cX0_rests 52 = .ok (.ireturn, 1) := by decide +kernel
theorem dX0_rests_53 : decode cX0_rests 53 = .ok (.iload_n 2, 1) := by decide +kernel
theorem dX0_rests_54 : decode cX0_rests 54 = .ok (.ireturn, 1) := by decide +kernel
set_option maxRecDepth 20000 in
theorem dX0_named_0 : decode cX0_named 0 = .ok (.iload_n 1, 1) := by decide +kernel
theorem dX0_named_1 : decode cX0_named 1 = .ok (.tableswitch 74 (-5) (-1) #[69, 62, 52, 42, 35], 35) := by decide +kernel
theorem dX0_named_36 : decode cX0_named 36 = .ok (.aload_n 0, 1) := by decide +kernel
theorem dX0_named_37 : decode cX0_named 37 = .ok (.getfield 21, 3) := by decide +kernel
theorem dX0_named_40 : decode cX0_named 40 = .ok (.iload_n 2, 1) := by decide +kernel
theorem dX0_named_41 : decode cX0_named 41 = .ok (.iaload, 1) := by decide +kernel
theorem dX0_named_42 : decode cX0_named 42 = .ok (.ireturn, 1) := by decide +kernel
theorem dX0_named_43 : decode cX0_named 43 = .ok (.aload_n 0, 1) := by decide +kernel
theorem dX0_named_44 : decode cX0_named 44 = .ok (.getfield 18, 3) := by decide +kernel
theorem dX0_named_47 : decode cX0_named 47 = .ok (.iload_n 2, 1) := by decide +kernel
theorem dX0_named_48 : decode cX0_named 48 = .ok (.iaload, 1) := by decide +kernel
theorem dX0_named_49 : decode cX0_named 49 = .ok (.bipush 8, 2) := by decide +kernel
theorem dX0_named_51 : decode cX0_named 51 = .ok (.irem, 1) := by decide +kernel
theorem dX0_named_52 : decode cX0_named 52 = .ok (.ireturn, 1) := by decide +kernel
theorem dX0_named_53 : decode cX0_named 53 = .ok (.aload_n 0, 1) := by decide +kernel
theorem dX0_named_54 : decode cX0_named 54 = .ok (.getfield 18, 3) := by decide +kernel
theorem dX0_named_57 : decode cX0_named 57 = .ok (.iload_n 2, 1) := by decide +kernel
theorem dX0_named_58 : decode cX0_named 58 = .ok (.iaload, 1) := by decide +kernel
theorem dX0_named_59 : decode cX0_named 59 = .ok (.bipush 8, 2) := by decide +kernel
theorem dX0_named_61 : decode cX0_named 61 = .ok (.idiv, 1) := by decide +kernel
theorem dX0_named_62 : decode cX0_named 62 = .ok (.ireturn, 1) := by decide +kernel
theorem dX0_named_63 : decode cX0_named 63 = .ok (.aload_n 0, 1) := by decide +kernel
theorem dX0_named_64 : decode cX0_named 64 = .ok (.getfield 15, 3) := by decide +kernel
theorem dX0_named_67 : decode cX0_named 67 = .ok (.iload_n 2, 1) := by decide +kernel
theorem dX0_named_68 : decode cX0_named 68 = .ok (.iaload, 1) := by decide +kernel
theorem dX0_named_69 : decode cX0_named 69 = .ok (.ireturn, 1) := by decide +kernel
theorem dX0_named_70 : decode cX0_named 70 = .ok (.aload_n 0, 1) := by decide +kernel
theorem dX0_named_71 : decode cX0_named 71 = .ok (.getfield 31, 3) := by decide +kernel
theorem dX0_named_74 : decode cX0_named 74 = .ok (.ireturn, 1) := by decide +kernel
theorem dX0_named_75 : decode cX0_named 75 = .ok (.aload_n 0, 1) := by decide +kernel
theorem dX0_named_76 : decode cX0_named 76 = .ok (.getfield 28, 3) := by decide +kernel
theorem dX0_named_79 : decode cX0_named 79 = .ok (.invokestatic 95, 3) := by decide +kernel
theorem dX0_named_82 : decode cX0_named 82 = .ok (.ireturn, 1) := by decide +kernel
theorem dX1_init_0 : decode cX1_init 0 = .ok (.aload_n 0, 1) := by decide +kernel
theorem dX1_init_1 : decode cX1_init 1 = .ok (.invokespecial 3, 3) := by decide +kernel
theorem dX1_init_4 : decode cX1_init 4 = .ok (.aload_n 0, 1) := by decide +kernel
theorem dX1_init_5 : decode cX1_init 5 = .ok (.bipush 6, 2) := by decide +kernel
theorem dX1_init_7 : decode cX1_init 7 = .ok (.anewarray 9, 3) := by decide +kernel
theorem dX1_init_10 : decode cX1_init 10 = .ok (.putfield 11, 3) := by decide +kernel
theorem dX1_init_13 : decode cX1_init 13 = .ok (.aload_n 0, 1) := by decide +kernel
theorem dX1_init_14 : decode cX1_init 14 = .ok (.bipush 40, 2) := by decide +kernel
theorem dX1_init_16 : decode cX1_init 16 = .ok (.newarray .int, 2) := by decide +kernel
theorem dX1_init_18 : decode cX1_init 18 = .ok (.putfield 17, 3) := by decide +kernel
theorem dX1_init_21 : decode cX1_init 21 = .ok (.return_, 1) := by decide +kernel
theorem dX1_add_0 : decode cX1_add 0 = .ok (.aload_n 0, 1) := by decide +kernel
theorem dX1_add_1 : decode cX1_add 1 = .ok (.getfield 21, 3) := by decide +kernel
theorem dX1_add_4 : decode cX1_add 4 = .ok (.bipush 6, 2) := by decide +kernel
theorem dX1_add_6 : decode cX1_add 6 = .ok (.if_icmp .lt 6, 3) := by decide +kernel
theorem dX1_add_9 : decode cX1_add 9 = .ok (.bipush (-4), 2) := by decide +kernel
theorem dX1_add_11 : decode cX1_add 11 = .ok (.ireturn, 1) := by decide +kernel
theorem dX1_add_12 : decode cX1_add 12 = .ok (.aload_n 0, 1) := by decide +kernel
theorem dX1_add_13 : decode cX1_add 13 = .ok (.getfield 11, 3) := by decide +kernel
theorem dX1_add_16 : decode cX1_add 16 = .ok (.aload_n 0, 1) := by decide +kernel
theorem dX1_add_17 : decode cX1_add 17 = .ok (.getfield 21, 3) := by decide +kernel
theorem dX1_add_20 : decode cX1_add 20 = .ok (.aload_n 1, 1) := by decide +kernel
theorem dX1_add_21 : decode cX1_add 21 = .ok (.aastore, 1) := by decide +kernel
theorem dX1_add_22 : decode cX1_add 22 = .ok (.aload_n 0, 1) := by decide +kernel
theorem dX1_add_23 : decode cX1_add 23 = .ok (.dup, 1) := by decide +kernel
theorem dX1_add_24 : decode cX1_add 24 = .ok (.getfield 21, 3) := by decide +kernel
theorem dX1_add_27 : decode cX1_add 27 = .ok (.iconst 1, 1) := by decide +kernel
theorem dX1_add_28 : decode cX1_add 28 = .ok (.iadd, 1) := by decide +kernel
theorem dX1_add_29 : decode cX1_add 29 = .ok (.putfield 21, 3) := by decide +kernel
theorem dX1_add_32 : decode cX1_add 32 = .ok (.aload_n 0, 1) := by decide +kernel
theorem dX1_add_33 : decode cX1_add 33 = .ok (.getfield 21, 3) := by decide +kernel
theorem dX1_add_36 : decode cX1_add 36 = .ok (.iconst 1, 1) := by decide +kernel
theorem dX1_add_37 : decode cX1_add 37 = .ok (.isub, 1) := by decide +kernel
theorem dX1_add_38 : decode cX1_add 38 = .ok (.ireturn, 1) := by decide +kernel
set_option maxRecDepth 20000 in
theorem dX1_passMinutes_0 : decode cX1_passMinutes 0 = .ok (.iconst 0, 1) := by decide +kernel
theorem dX1_passMinutes_1 : decode cX1_passMinutes 1 = .ok (.istore 4, 2) := by decide +kernel
theorem dX1_passMinutes_3 : decode cX1_passMinutes 3 = .ok (.iconst 0, 1) := by decide +kernel
theorem dX1_passMinutes_4 : decode cX1_passMinutes 4 = .ok (.istore 5, 2) := by decide +kernel
theorem dX1_passMinutes_6 : decode cX1_passMinutes 6 = .ok (.iload 5, 2) := by decide +kernel
theorem dX1_passMinutes_8 : decode cX1_passMinutes 8 = .ok (.iload_n 2, 1) := by decide +kernel
theorem dX1_passMinutes_9 : decode cX1_passMinutes 9 = .ok (.if_icmp .ge 71, 3) := by decide +kernel
theorem dX1_passMinutes_12 : decode cX1_passMinutes 12 = .ok (.iconst 0, 1) := by decide +kernel
theorem dX1_passMinutes_13 : decode cX1_passMinutes 13 = .ok (.istore 6, 2) := by decide +kernel
theorem dX1_passMinutes_15 : decode cX1_passMinutes 15 = .ok (.iload 6, 2) := by decide +kernel
theorem dX1_passMinutes_17 : decode cX1_passMinutes 17 = .ok (.aload_n 1, 1) := by decide +kernel
theorem dX1_passMinutes_18 : decode cX1_passMinutes 18 = .ok (.getfield 25, 3) := by decide +kernel
theorem dX1_passMinutes_21 : decode cX1_passMinutes 21 = .ok (.if_icmp .ge 43, 3) := by decide +kernel
theorem dX1_passMinutes_24 : decode cX1_passMinutes 24 = .ok (.iload 4, 2) := by decide +kernel
theorem dX1_passMinutes_26 : decode cX1_passMinutes 26 = .ok (.aload_n 0, 1) := by decide +kernel
theorem dX1_passMinutes_27 : decode cX1_passMinutes 27 = .ok (.aload_n 1, 1) := by decide +kernel
theorem dX1_passMinutes_28 : decode cX1_passMinutes 28 = .ok (.iload 6, 2) := by decide +kernel
theorem dX1_passMinutes_30 : decode cX1_passMinutes 30 = .ok (.iload 6, 2) := by decide +kernel
theorem dX1_passMinutes_32 : decode cX1_passMinutes 32 = .ok (.iload_n 3, 1) := by decide +kernel
theorem dX1_passMinutes_33 : decode cX1_passMinutes 33 = .ok (.if_icmp .ne 7, 3) := by decide +kernel
theorem dX1_passMinutes_36 : decode cX1_passMinutes 36 = .ok (.iconst 1, 1) := by decide +kernel
theorem dX1_passMinutes_37 : decode cX1_passMinutes 37 = .ok (.goto 4, 3) := by decide +kernel
theorem dX1_passMinutes_40 : decode cX1_passMinutes 40 = .ok (.iconst 0, 1) := by decide +kernel
theorem dX1_passMinutes_41 : decode cX1_passMinutes 41 = .ok (.invokevirtual 30, 3) := by decide +kernel
theorem dX1_passMinutes_44 : decode cX1_passMinutes 44 = .ok (.ifCond .eq 10, 3) := by decide +kernel
theorem dX1_passMinutes_47 : decode cX1_passMinutes 47 = .ok (.iconst 1, 1) := by decide +kernel
theorem dX1_passMinutes_48 : decode cX1_passMinutes 48 = .ok (.iload 6, 2) := by decide +kernel
theorem dX1_passMinutes_50 : decode cX1_passMinutes 50 = .ok (.ishl, 1) := by decide +kernel
theorem dX1_passMinutes_51 : decode cX1_passMinutes 51 = .ok (.goto 4, 3) := by decide +kernel
theorem dX1_passMinutes_54 : decode cX1_passMinutes 54 = .ok (.iconst 0, 1) := by decide +kernel
theorem dX1_passMinutes_55 : decode cX1_passMinutes 55 = .ok (.ior, 1) := by decide +kernel
theorem dX1_passMinutes_56 : decode cX1_passMinutes 56 = .ok (.istore 4, 2) := by decide +kernel
theorem dX1_passMinutes_58 : decode cX1_passMinutes 58 = .ok (.iinc 6 1, 3) := by decide +kernel
theorem dX1_passMinutes_61 : decode cX1_passMinutes 61 = .ok (.goto (-46), 3) := by decide +kernel
theorem dX1_passMinutes_64 : decode cX1_passMinutes 64 = .ok (.aload_n 1, 1) := by decide +kernel
theorem dX1_passMinutes_65 : decode cX1_passMinutes 65 = .ok (.dup, 1) := by decide +kernel
theorem dX1_passMinutes_66 : decode cX1_passMinutes 66 = .ok (.getfield 34, 3) := by decide +kernel
theorem dX1_passMinutes_69 : decode cX1_passMinutes 69 = .ok (.iconst 1, 1) := by decide +kernel
theorem dX1_passMinutes_70 : decode cX1_passMinutes 70 = .ok (.iadd, 1) := by decide +kernel
theorem dX1_passMinutes_71 : decode cX1_passMinutes 71 = .ok (.putfield 34, 3) := by decide +kernel
theorem dX1_passMinutes_74 : decode cX1_passMinutes 74 = .ok (.iinc 5 1, 3) := by decide +kernel
theorem dX1_passMinutes_77 : decode cX1_passMinutes 77 = .ok (.goto (-71), 3) := by decide +kernel
theorem dX1_passMinutes_80 : decode cX1_passMinutes 80 = .ok (.iload 4, 2) := by decide +kernel
theorem dX1_passMinutes_82 : decode cX1_passMinutes 82 = .ok (.ireturn, 1) := by decide +kernel
set_option maxRecDepth 20000 in
theorem dX1_passOne_0 : decode cX1_passOne 0 = .ok (.iload_n 3, 1) := by decide +kernel
theorem dX1_passOne_1 : decode cX1_passOne 1 = .ok (.ifCond .eq 7, 3) := by decide +kernel
theorem dX1_passOne_4 : decode cX1_passOne 4 = .ok (.iconst (-1), 1) := by decide +kernel
theorem dX1_passOne_5 : decode cX1_passOne 5 = .ok (.goto 20, 3) := by decide +kernel
theorem dX1_passOne_8 : decode cX1_passOne 8 = .ok (.aload_n 1, 1) := by decide +kernel
theorem dX1_passOne_9 : decode cX1_passOne 9 = .ok (.iload_n 2, 1) := by decide +kernel
theorem dX1_passOne_10 : decode cX1_passOne 10 = .ok (.aload_n 1, 1) := by decide +kernel
theorem dX1_passOne_11 : decode cX1_passOne 11 = .ok (.getfield 37, 3) := by decide +kernel
theorem dX1_passOne_14 : decode cX1_passOne 14 = .ok (.iload_n 2, 1) := by decide +kernel
theorem dX1_passOne_15 : decode cX1_passOne 15 = .ok (.iaload, 1) := by decide +kernel
theorem dX1_passOne_16 : decode cX1_passOne 16 = .ok (.aload_n 0, 1) := by decide +kernel
theorem dX1_passOne_17 : decode cX1_passOne 17 = .ok (.aload_n 1, 1) := by decide +kernel
theorem dX1_passOne_18 : decode cX1_passOne 18 = .ok (.iload_n 2, 1) := by decide +kernel
theorem dX1_passOne_19 : decode cX1_passOne 19 = .ok (.invokevirtual 40, 3) := by decide +kernel
theorem dX1_passOne_22 : decode cX1_passOne 22 = .ok (.invokevirtual 44, 3) := by decide +kernel
theorem dX1_passOne_25 : decode cX1_passOne 25 = .ok (.istore 4, 2) := by decide +kernel
theorem dX1_passOne_27 : decode cX1_passOne 27 = .ok (.iload 4, 2) := by decide +kernel
theorem dX1_passOne_29 : decode cX1_passOne 29 = .ok (.iconst (-1), 1) := by decide +kernel
theorem dX1_passOne_30 : decode cX1_passOne 30 = .ok (.if_icmp .ne 28, 3) := by decide +kernel
theorem dX1_passOne_33 : decode cX1_passOne 33 = .ok (.aload_n 1, 1) := by decide +kernel
theorem dX1_passOne_34 : decode cX1_passOne 34 = .ok (.getfield 48, 3) := by decide +kernel
theorem dX1_passOne_37 : decode cX1_passOne 37 = .ok (.iload_n 2, 1) := by decide +kernel
theorem dX1_passOne_38 : decode cX1_passOne 38 = .ok (.iconst 0, 1) := by decide +kernel
theorem dX1_passOne_39 : decode cX1_passOne 39 = .ok (.aload_n 1, 1) := by decide +kernel
theorem dX1_passOne_40 : decode cX1_passOne 40 = .ok (.getfield 48, 3) := by decide +kernel
theorem dX1_passOne_43 : decode cX1_passOne 43 = .ok (.iload_n 2, 1) := by decide +kernel
theorem dX1_passOne_44 : decode cX1_passOne 44 = .ok (.iaload, 1) := by decide +kernel
theorem dX1_passOne_45 : decode cX1_passOne 45 = .ok (.aload_n 0, 1) := by decide +kernel
theorem dX1_passOne_46 : decode cX1_passOne 46 = .ok (.aload_n 1, 1) := by decide +kernel
theorem dX1_passOne_47 : decode cX1_passOne 47 = .ok (.iload_n 2, 1) := by decide +kernel
theorem dX1_passOne_48 : decode cX1_passOne 48 = .ok (.invokevirtual 51, 3) := by decide +kernel
theorem dX1_passOne_51 : decode cX1_passOne 51 = .ok (.isub, 1) := by decide +kernel
theorem dX1_passOne_52 : decode cX1_passOne 52 = .ok (.invokestatic 54, 3) := by decide +kernel
theorem dX1_passOne_55 : decode cX1_passOne 55 = .ok (.iastore, 1) := by decide +kernel
theorem dX1_passOne_56 : decode cX1_passOne 56 = .ok (.iconst 0, 1) := by decide +kernel
theorem dX1_passOne_57 : decode cX1_passOne 57 = .ok (.ireturn, 1) := by decide +kernel
theorem dX1_passOne_58 : decode cX1_passOne 58 = .ok (.aload_n 1, 1) := by decide +kernel
theorem dX1_passOne_59 : decode cX1_passOne 59 = .ok (.getfield 48, 3) := by decide +kernel
theorem dX1_passOne_62 : decode cX1_passOne 62 = .ok (.iload_n 2, 1) := by decide +kernel
theorem dX1_passOne_63 : decode cX1_passOne 63 = .ok (.bipush 99, 2) := by decide +kernel
theorem dX1_passOne_65 : decode cX1_passOne 65 = .ok (.aload_n 1, 1) := by decide +kernel
theorem dX1_passOne_66 : decode cX1_passOne 66 = .ok (.getfield 48, 3) := by decide +kernel
theorem dX1_passOne_69 : decode cX1_passOne 69 = .ok (.iload_n 2, 1) := by decide +kernel
theorem dX1_passOne_70 : decode cX1_passOne 70 = .ok (.iaload, 1) := by decide +kernel
theorem dX1_passOne_71 : decode cX1_passOne 71 = .ok (.aload_n 0, 1) := by decide +kernel
theorem dX1_passOne_72 : decode cX1_passOne 72 = .ok (.aload_n 1, 1) := by decide +kernel
theorem dX1_passOne_73 : decode cX1_passOne 73 = .ok (.iload_n 2, 1) := by decide +kernel
theorem dX1_passOne_74 : decode cX1_passOne 74 = .ok (.invokevirtual 60, 3) := by decide +kernel
theorem dX1_passOne_77 : decode cX1_passOne 77 = .ok (.iadd, 1) := by decide +kernel
theorem dX1_passOne_78 : decode cX1_passOne 78 = .ok (.invokestatic 63, 3) := by decide +kernel
theorem dX1_passOne_81 : decode cX1_passOne 81 = .ok (.iastore, 1) := by decide +kernel
theorem dX1_passOne_82 : decode cX1_passOne 82 = .ok (.aload_n 1, 1) := by decide +kernel
theorem dX1_passOne_83 : decode cX1_passOne 83 = .ok (.getfield 37, 3) := by decide +kernel
theorem dX1_passOne_86 : decode cX1_passOne 86 = .ok (.iload_n 2, 1) := by decide +kernel
theorem dX1_passOne_87 : decode cX1_passOne 87 = .ok (.iload 4, 2) := by decide +kernel
theorem dX1_passOne_89 : decode cX1_passOne 89 = .ok (.iastore, 1) := by decide +kernel
theorem dX1_passOne_90 : decode cX1_passOne 90 = .ok (.iconst 1, 1) := by decide +kernel
theorem dX1_passOne_91 : decode cX1_passOne 91 = .ok (.ireturn, 1) := by decide +kernel
set_option maxRecDepth 20000 in
theorem dX1_wayOf_0 : decode cX1_wayOf 0 = .ok (.aload_n 0, 1) := by decide +kernel
theorem dX1_wayOf_1 : decode cX1_wayOf 1 = .ok (.aload_n 1, 1) := by decide +kernel
theorem dX1_wayOf_2 : decode cX1_wayOf 2 = .ok (.iload_n 2, 1) := by decide +kernel
theorem dX1_wayOf_3 : decode cX1_wayOf 3 = .ok (.iconst 0, 1) := by decide +kernel
theorem dX1_wayOf_4 : decode cX1_wayOf 4 = .ok (.invokevirtual 66, 3) := by decide +kernel
theorem dX1_wayOf_7 : decode cX1_wayOf 7 = .ok (.bipush (-99), 2) := by decide +kernel
theorem dX1_wayOf_9 : decode cX1_wayOf 9 = .ok (.bipush 99, 2) := by decide +kernel
theorem dX1_wayOf_11 : decode cX1_wayOf 11 = .ok (.invokestatic 70, 3) := by decide +kernel
theorem dX1_wayOf_14 : decode cX1_wayOf 14 = .ok (.bipush 8, 2) := by decide +kernel
theorem dX1_wayOf_16 : decode cX1_wayOf 16 = .ok (.invokestatic 73, 3) := by decide +kernel
theorem dX1_wayOf_19 : decode cX1_wayOf 19 = .ok (.ireturn, 1) := by decide +kernel
set_option maxRecDepth 20000 in
theorem dX1_tiresOf_0 : decode cX1_tiresOf 0 = .ok (.aload_n 1, 1) := by decide +kernel
theorem dX1_tiresOf_1 : decode cX1_tiresOf 1 = .ok (.iload_n 2, 1) := by decide +kernel
theorem dX1_tiresOf_2 : decode cX1_tiresOf 2 = .ok (.aload_n 0, 1) := by decide +kernel
theorem dX1_tiresOf_3 : decode cX1_tiresOf 3 = .ok (.aload_n 1, 1) := by decide +kernel
theorem dX1_tiresOf_4 : decode cX1_tiresOf 4 = .ok (.iload_n 2, 1) := by decide +kernel
theorem dX1_tiresOf_5 : decode cX1_tiresOf 5 = .ok (.iconst 1, 1) := by decide +kernel
theorem dX1_tiresOf_6 : decode cX1_tiresOf 6 = .ok (.invokevirtual 66, 3) := by decide +kernel
theorem dX1_tiresOf_9 : decode cX1_tiresOf 9 = .ok (.iconst 0, 1) := by decide +kernel
theorem dX1_tiresOf_10 : decode cX1_tiresOf 10 = .ok (.bipush 99, 2) := by decide +kernel
theorem dX1_tiresOf_12 : decode cX1_tiresOf 12 = .ok (.invokestatic 70, 3) := by decide +kernel
theorem dX1_tiresOf_15 : decode cX1_tiresOf 15 = .ok (.invokevirtual 76, 3) := by decide +kernel
theorem dX1_tiresOf_18 : decode cX1_tiresOf 18 = .ok (.iconst 0, 1) := by decide +kernel
theorem dX1_tiresOf_19 : decode cX1_tiresOf 19 = .ok (.bipush 99, 2) := by decide +kernel
theorem dX1_tiresOf_21 : decode cX1_tiresOf 21 = .ok (.invokestatic 70, 3) := by decide +kernel
theorem dX1_tiresOf_24 : decode cX1_tiresOf 24 = .ok (.ireturn, 1) := by decide +kernel
set_option maxRecDepth 20000 in
theorem dX1_restsOf_0 : decode cX1_restsOf 0 = .ok (.aload_n 1, 1) := by decide +kernel
theorem dX1_restsOf_1 : decode cX1_restsOf 1 = .ok (.iload_n 2, 1) := by decide +kernel
theorem dX1_restsOf_2 : decode cX1_restsOf 2 = .ok (.aload_n 0, 1) := by decide +kernel
theorem dX1_restsOf_3 : decode cX1_restsOf 3 = .ok (.aload_n 1, 1) := by decide +kernel
theorem dX1_restsOf_4 : decode cX1_restsOf 4 = .ok (.iload_n 2, 1) := by decide +kernel
theorem dX1_restsOf_5 : decode cX1_restsOf 5 = .ok (.iconst 2, 1) := by decide +kernel
theorem dX1_restsOf_6 : decode cX1_restsOf 6 = .ok (.invokevirtual 66, 3) := by decide +kernel
theorem dX1_restsOf_9 : decode cX1_restsOf 9 = .ok (.iconst 0, 1) := by decide +kernel
theorem dX1_restsOf_10 : decode cX1_restsOf 10 = .ok (.bipush 99, 2) := by decide +kernel
theorem dX1_restsOf_12 : decode cX1_restsOf 12 = .ok (.invokestatic 70, 3) := by decide +kernel
theorem dX1_restsOf_15 : decode cX1_restsOf 15 = .ok (.invokevirtual 79, 3) := by decide +kernel
theorem dX1_restsOf_18 : decode cX1_restsOf 18 = .ok (.iconst 0, 1) := by decide +kernel
theorem dX1_restsOf_19 : decode cX1_restsOf 19 = .ok (.bipush 99, 2) := by decide +kernel
theorem dX1_restsOf_21 : decode cX1_restsOf 21 = .ok (.invokestatic 70, 3) := by decide +kernel
theorem dX1_restsOf_24 : decode cX1_restsOf 24 = .ok (.ireturn, 1) := by decide +kernel
set_option maxRecDepth 20000 in
theorem dX1_value_0 : decode cX1_value 0 = .ok (.aload_n 1, 1) := by decide +kernel
theorem dX1_value_1 : decode cX1_value 1 = .ok (.getfield 82, 3) := by decide +kernel
theorem dX1_value_4 : decode cX1_value 4 = .ok (.aload_n 0, 1) := by decide +kernel
theorem dX1_value_5 : decode cX1_value 5 = .ok (.getfield 21, 3) := by decide +kernel
theorem dX1_value_8 : decode cX1_value 8 = .ok (.iconst 1, 1) := by decide +kernel
theorem dX1_value_9 : decode cX1_value 9 = .ok (.isub, 1) := by decide +kernel
theorem dX1_value_10 : decode cX1_value 10 = .ok (.invokestatic 85, 3) := by decide +kernel
theorem dX1_value_13 : decode cX1_value 13 = .ok (.ifCond .eq 15, 3) := by decide +kernel
theorem dX1_value_16 : decode cX1_value 16 = .ok (.aload_n 0, 1) := by decide +kernel
theorem dX1_value_17 : decode cX1_value 17 = .ok (.getfield 11, 3) := by decide +kernel
theorem dX1_value_20 : decode cX1_value 20 = .ok (.aload_n 1, 1) := by decide +kernel
theorem dX1_value_21 : decode cX1_value 21 = .ok (.getfield 82, 3) := by decide +kernel
theorem dX1_value_24 : decode cX1_value 24 = .ok (.aaload, 1) := by decide +kernel
theorem dX1_value_25 : decode cX1_value 25 = .ok (.goto 4, 3) := by decide +kernel
theorem dX1_value_28 : decode cX1_value 28 = .ok (.aconst_null, 1) := by decide +kernel
theorem dX1_value_29 : decode cX1_value 29 = .ok (.astore 4, 2) := by decide +kernel
theorem dX1_value_31 : decode cX1_value 31 = .ok (.aload 4, 2) := by decide +kernel
theorem dX1_value_33 : decode cX1_value 33 = .ok (.ifnonnull 5, 3) := by decide +kernel
theorem dX1_value_36 : decode cX1_value 36 = .ok (.iconst 0, 1) := by decide +kernel
theorem dX1_value_37 : decode cX1_value 37 = .ok (.ireturn, 1) := by decide +kernel
theorem dX1_value_38 : decode cX1_value 38 = .ok (.aload 4, 2) := by decide +kernel
theorem dX1_value_40 : decode cX1_value 40 = .ok (.iload_n 3, 1) := by decide +kernel
theorem dX1_value_41 : decode cX1_value 41 = .ok (.invokevirtual 89, 3) := by decide +kernel
theorem dX1_value_44 : decode cX1_value 44 = .ok (.istore 5, 2) := by decide +kernel
theorem dX1_value_46 : decode cX1_value 46 = .ok (.iconst 0, 1) := by decide +kernel
theorem dX1_value_47 : decode cX1_value 47 = .ok (.istore 6, 2) := by decide +kernel
theorem dX1_value_49 : decode cX1_value 49 = .ok (.aload 4, 2) := by decide +kernel
theorem dX1_value_51 : decode cX1_value 51 = .ok (.iload_n 3, 1) := by decide +kernel
theorem dX1_value_52 : decode cX1_value 52 = .ok (.invokevirtual 93, 3) := by decide +kernel
theorem dX1_value_55 : decode cX1_value 55 = .ok (.istore 7, 2) := by decide +kernel
theorem dX1_value_57 : decode cX1_value 57 = .ok (.iload 7, 2) := by decide +kernel
theorem dX1_value_59 : decode cX1_value 59 = .ok (.iload 5, 2) := by decide +kernel
theorem dX1_value_61 : decode cX1_value 61 = .ok (.if_icmp .ge 167, 3) := by decide +kernel
theorem dX1_value_64 : decode cX1_value 64 = .ok (.aload 4, 2) := by decide +kernel
theorem dX1_value_66 : decode cX1_value 66 = .ok (.getfield 96, 3) := by decide +kernel
theorem dX1_value_69 : decode cX1_value 69 = .ok (.iload 7, 2) := by decide +kernel
theorem dX1_value_71 : decode cX1_value 71 = .ok (.iaload, 1) := by decide +kernel
theorem dX1_value_72 : decode cX1_value 72 = .ok (.istore 8, 2) := by decide +kernel
theorem dX1_value_74 : decode cX1_value 74 = .ok (.iload 8, 2) := by decide +kernel
theorem dX1_value_76 : decode cX1_value 76 = .ok (.bipush (-6), 2) := by decide +kernel
theorem dX1_value_78 : decode cX1_value 78 = .ok (.if_icmp .lt 40, 3) := by decide +kernel
theorem dX1_value_81 : decode cX1_value 81 = .ok (.iload 6, 2) := by decide +kernel
theorem dX1_value_83 : decode cX1_value 83 = .ok (.bipush 40, 2) := by decide +kernel
theorem dX1_value_85 : decode cX1_value 85 = .ok (.if_icmp .ge 137, 3) := by decide +kernel
theorem dX1_value_88 : decode cX1_value 88 = .ok (.aload_n 0, 1) := by decide +kernel
theorem dX1_value_89 : decode cX1_value 89 = .ok (.getfield 17, 3) := by decide +kernel
theorem dX1_value_92 : decode cX1_value 92 = .ok (.iload 6, 2) := by decide +kernel
theorem dX1_value_94 : decode cX1_value 94 = .ok (.iload 8, 2) := by decide +kernel
theorem dX1_value_96 : decode cX1_value 96 = .ok (.ifCond .lt 8, 3) := by decide +kernel
theorem dX1_value_99 : decode cX1_value 99 = .ok (.iload 8, 2) := by decide +kernel
theorem dX1_value_101 : decode cX1_value 101 = .ok (.goto 10, 3) := by decide +kernel
theorem dX1_value_104 : decode cX1_value 104 = .ok (.aload_n 1, 1) := by decide +kernel
theorem dX1_value_105 : decode cX1_value 105 = .ok (.iload 8, 2) := by decide +kernel
theorem dX1_value_107 : decode cX1_value 107 = .ok (.iload_n 2, 1) := by decide +kernel
theorem dX1_value_108 : decode cX1_value 108 = .ok (.invokevirtual 99, 3) := by decide +kernel
theorem dX1_value_111 : decode cX1_value 111 = .ok (.iastore, 1) := by decide +kernel
theorem dX1_value_112 : decode cX1_value 112 = .ok (.iinc 6 1, 3) := by decide +kernel
theorem dX1_value_115 : decode cX1_value 115 = .ok (.goto 107, 3) := by decide +kernel
theorem dX1_value_118 : decode cX1_value 118 = .ok (.iload 8, 2) := by decide +kernel
theorem dX1_value_120 : decode cX1_value 120 = .ok (.bipush (-8), 2) := by decide +kernel
theorem dX1_value_122 : decode cX1_value 122 = .ok (.if_icmp .lt 61, 3) := by decide +kernel
theorem dX1_value_125 : decode cX1_value 125 = .ok (.iload 6, 2) := by decide +kernel
theorem dX1_value_127 : decode cX1_value 127 = .ok (.iconst 1, 1) := by decide +kernel
theorem dX1_value_128 : decode cX1_value 128 = .ok (.if_icmp .lt 94, 3) := by decide +kernel
theorem dX1_value_131 : decode cX1_value 131 = .ok (.aload_n 0, 1) := by decide +kernel
theorem dX1_value_132 : decode cX1_value 132 = .ok (.getfield 17, 3) := by decide +kernel
theorem dX1_value_135 : decode cX1_value 135 = .ok (.iload 6, 2) := by decide +kernel
theorem dX1_value_137 : decode cX1_value 137 = .ok (.iconst 1, 1) := by decide +kernel
theorem dX1_value_138 : decode cX1_value 138 = .ok (.isub, 1) := by decide +kernel
theorem dX1_value_139 : decode cX1_value 139 = .ok (.iload 8, 2) := by decide +kernel
theorem dX1_value_141 : decode cX1_value 141 = .ok (.bipush (-8), 2) := by decide +kernel
theorem dX1_value_143 : decode cX1_value 143 = .ok (.if_icmp .ne 16, 3) := by decide +kernel
theorem dX1_value_146 : decode cX1_value 146 = .ok (.aload_n 0, 1) := by decide +kernel
theorem dX1_value_147 : decode cX1_value 147 = .ok (.getfield 17, 3) := by decide +kernel
theorem dX1_value_150 : decode cX1_value 150 = .ok (.iload 6, 2) := by decide +kernel
theorem dX1_value_152 : decode cX1_value 152 = .ok (.iconst 1, 1) := by decide +kernel
theorem dX1_value_153 : decode cX1_value 153 = .ok (.isub, 1) := by decide +kernel
theorem dX1_value_154 : decode cX1_value 154 = .ok (.iaload, 1) := by decide +kernel
theorem dX1_value_155 : decode cX1_value 155 = .ok (.ineg, 1) := by decide +kernel
theorem dX1_value_156 : decode cX1_value 156 = .ok (.goto 23, 3) := by decide +kernel
theorem dX1_value_159 : decode cX1_value 159 = .ok (.aload_n 0, 1) := by decide +kernel
theorem dX1_value_160 : decode cX1_value 160 = .ok (.getfield 17, 3) := by decide +kernel
theorem dX1_value_163 : decode cX1_value 163 = .ok (.iload 6, 2) := by decide +kernel
theorem dX1_value_165 : decode cX1_value 165 = .ok (.iconst 1, 1) := by decide +kernel
theorem dX1_value_166 : decode cX1_value 166 = .ok (.isub, 1) := by decide +kernel
theorem dX1_value_167 : decode cX1_value 167 = .ok (.iaload, 1) := by decide +kernel
theorem dX1_value_168 : decode cX1_value 168 = .ok (.ifCond .ne 7, 3) := by decide +kernel
theorem dX1_value_171 : decode cX1_value 171 = .ok (.iconst 1, 1) := by decide +kernel
theorem dX1_value_172 : decode cX1_value 172 = .ok (.goto 4, 3) := by decide +kernel
theorem dX1_value_175 : decode cX1_value 175 = .ok (.iconst 0, 1) := by decide +kernel
theorem dX1_value_176 : decode cX1_value 176 = .ok (.invokestatic 102, 3) := by decide +kernel
theorem dX1_value_179 : decode cX1_value 179 = .ok (.iastore, 1) := by decide +kernel
theorem dX1_value_180 : decode cX1_value 180 = .ok (.goto 42, 3) := by decide +kernel
theorem dX1_value_183 : decode cX1_value 183 = .ok (.iload 6, 2) := by decide +kernel
theorem dX1_value_185 : decode cX1_value 185 = .ok (.iconst 2, 1) := by decide +kernel
theorem dX1_value_186 : decode cX1_value 186 = .ok (.if_icmp .lt 36, 3) := by decide +kernel
theorem dX1_value_189 : decode cX1_value 189 = .ok (.iinc 6 (-1), 3) := by decide +kernel
theorem dX1_value_192 : decode cX1_value 192 = .ok (.aload_n 0, 1) := by decide +kernel
theorem dX1_value_193 : decode cX1_value 193 = .ok (.getfield 17, 3) := by decide +kernel
theorem dX1_value_196 : decode cX1_value 196 = .ok (.iload 6, 2) := by decide +kernel
theorem dX1_value_198 : decode cX1_value 198 = .ok (.iconst 1, 1) := by decide +kernel
theorem dX1_value_199 : decode cX1_value 199 = .ok (.isub, 1) := by decide +kernel
theorem dX1_value_200 : decode cX1_value 200 = .ok (.iload 8, 2) := by decide +kernel
theorem dX1_value_202 : decode cX1_value 202 = .ok (.aload_n 0, 1) := by decide +kernel
theorem dX1_value_203 : decode cX1_value 203 = .ok (.getfield 17, 3) := by decide +kernel
theorem dX1_value_206 : decode cX1_value 206 = .ok (.iload 6, 2) := by decide +kernel
theorem dX1_value_208 : decode cX1_value 208 = .ok (.iconst 1, 1) := by decide +kernel
theorem dX1_value_209 : decode cX1_value 209 = .ok (.isub, 1) := by decide +kernel
theorem dX1_value_210 : decode cX1_value 210 = .ok (.iaload, 1) := by decide +kernel
theorem dX1_value_211 : decode cX1_value 211 = .ok (.aload_n 0, 1) := by decide +kernel
theorem dX1_value_212 : decode cX1_value 212 = .ok (.getfield 17, 3) := by decide +kernel
theorem dX1_value_215 : decode cX1_value 215 = .ok (.iload 6, 2) := by decide +kernel
theorem dX1_value_217 : decode cX1_value 217 = .ok (.iaload, 1) := by decide +kernel
theorem dX1_value_218 : decode cX1_value 218 = .ok (.invokestatic 106, 3) := by decide +kernel
theorem dX1_value_221 : decode cX1_value 221 = .ok (.iastore, 1) := by decide +kernel
theorem dX1_value_222 : decode cX1_value 222 = .ok (.iinc 7 1, 3) := by decide +kernel
theorem dX1_value_225 : decode cX1_value 225 = .ok (.goto (-168), 3) := by decide +kernel
theorem dX1_value_228 : decode cX1_value 228 = .ok (.aload_n 0, 1) := by decide +kernel
theorem dX1_value_229 : decode cX1_value 229 = .ok (.getfield 17, 3) := by decide +kernel
theorem dX1_value_232 : decode cX1_value 232 = .ok (.iconst 0, 1) := by decide +kernel
theorem dX1_value_233 : decode cX1_value 233 = .ok (.iaload, 1) := by decide +kernel
theorem dX1_value_234 : decode cX1_value 234 = .ok (.ireturn, 1) := by decide +kernel
set_option maxRecDepth 20000 in
theorem dX1_joined_0 : decode cX1_joined 0 = .ok (.iload_n 0, 1) := by decide +kernel
theorem dX1_joined_1 : decode cX1_joined 1 = .ok (.tableswitch 109 (-14) (-9) #[105, 101, 87, 73, 56, 39], 39) := by decide +kernel
theorem dX1_joined_40 : decode cX1_joined 40 = .ok (.iload_n 1, 1) := by decide +kernel
theorem dX1_joined_41 : decode cX1_joined 41 = .ok (.ifCond .ne 7, 3) := by decide +kernel
theorem dX1_joined_44 : decode cX1_joined 44 = .ok (.iload_n 2, 1) := by decide +kernel
theorem dX1_joined_45 : decode cX1_joined 45 = .ok (.ifCond .eq 7, 3) := by decide +kernel
theorem dX1_joined_48 : decode cX1_joined 48 = .ok (.iconst 1, 1) := by decide +kernel
theorem dX1_joined_49 : decode cX1_joined 49 = .ok (.goto 4, 3) := by decide +kernel
theorem dX1_joined_52 : decode cX1_joined 52 = .ok (.iconst 0, 1) := by decide +kernel
theorem dX1_joined_53 : decode cX1_joined 53 = .ok (.invokestatic 102, 3) := by decide +kernel
theorem dX1_joined_56 : decode cX1_joined 56 = .ok (.ireturn, 1) := by decide +kernel
theorem dX1_joined_57 : decode cX1_joined 57 = .ok (.iload_n 1, 1) := by decide +kernel
theorem dX1_joined_58 : decode cX1_joined 58 = .ok (.ifCond .eq 11, 3) := by decide +kernel
theorem dX1_joined_61 : decode cX1_joined 61 = .ok (.iload_n 2, 1) := by decide +kernel
theorem dX1_joined_62 : decode cX1_joined 62 = .ok (.ifCond .eq 7, 3) := by decide +kernel
theorem dX1_joined_65 : decode cX1_joined 65 = .ok (.iconst 1, 1) := by decide +kernel
theorem dX1_joined_66 : decode cX1_joined 66 = .ok (.goto 4, 3) := by decide +kernel
theorem dX1_joined_69 : decode cX1_joined 69 = .ok (.iconst 0, 1) := by decide +kernel
theorem dX1_joined_70 : decode cX1_joined 70 = .ok (.invokestatic 102, 3) := by decide +kernel
theorem dX1_joined_73 : decode cX1_joined 73 = .ok (.ireturn, 1) := by decide +kernel
theorem dX1_joined_74 : decode cX1_joined 74 = .ok (.iload_n 1, 1) := by decide +kernel
theorem dX1_joined_75 : decode cX1_joined 75 = .ok (.iload_n 2, 1) := by decide +kernel
theorem dX1_joined_76 : decode cX1_joined 76 = .ok (.if_icmp .ge 7, 3) := by decide +kernel
theorem dX1_joined_79 : decode cX1_joined 79 = .ok (.iconst 1, 1) := by decide +kernel
theorem dX1_joined_80 : decode cX1_joined 80 = .ok (.goto 4, 3) := by decide +kernel
theorem dX1_joined_83 : decode cX1_joined 83 = .ok (.iconst 0, 1) := by decide +kernel
theorem dX1_joined_84 : decode cX1_joined 84 = .ok (.invokestatic 102, 3) := by decide +kernel
theorem dX1_joined_87 : decode cX1_joined 87 = .ok (.ireturn, 1) := by decide +kernel
theorem dX1_joined_88 : decode cX1_joined 88 = .ok (.iload_n 1, 1) := by decide +kernel
theorem dX1_joined_89 : decode cX1_joined 89 = .ok (.iload_n 2, 1) := by decide +kernel
theorem dX1_joined_90 : decode cX1_joined 90 = .ok (.if_icmp .ne 7, 3) := by decide +kernel
theorem dX1_joined_93 : decode cX1_joined 93 = .ok (.iconst 1, 1) := by decide +kernel
theorem dX1_joined_94 : decode cX1_joined 94 = .ok (.goto 4, 3) := by decide +kernel
theorem dX1_joined_97 : decode cX1_joined 97 = .ok (.iconst 0, 1) := by decide +kernel
theorem dX1_joined_98 : decode cX1_joined 98 = .ok (.invokestatic 102, 3) := by decide +kernel
theorem dX1_joined_101 : decode cX1_joined 101 = .ok (.ireturn, 1) := by decide +kernel
theorem dX1_joined_102 : decode cX1_joined 102 = .ok (.iload_n 1, 1) := by decide +kernel
theorem dX1_joined_103 : decode cX1_joined 103 = .ok (.iload_n 2, 1) := by decide +kernel
theorem dX1_joined_104 : decode cX1_joined 104 = .ok (.iadd, 1) := by decide +kernel
theorem dX1_joined_105 : decode cX1_joined 105 = .ok (.ireturn, 1) := by decide +kernel
theorem dX1_joined_106 : decode cX1_joined 106 = .ok (.iload_n 1, 1) := by decide +kernel
theorem dX1_joined_107 : decode cX1_joined 107 = .ok (.iload_n 2, 1) := by decide +kernel
theorem dX1_joined_108 : decode cX1_joined 108 = .ok (.isub, 1) := by decide +kernel
theorem dX1_joined_109 : decode cX1_joined 109 = .ok (.ireturn, 1) := by decide +kernel
theorem dX1_joined_110 : decode cX1_joined 110 = .ok (.iload_n 1, 1) := by decide +kernel
theorem dX1_joined_111 : decode cX1_joined 111 = .ok (.iload_n 2, 1) := by decide +kernel
theorem dX1_joined_112 : decode cX1_joined 112 = .ok (.imul, 1) := by decide +kernel
theorem dX1_joined_113 : decode cX1_joined 113 = .ok (.ireturn, 1) := by decide +kernel
theorem dX1_truth_0 : decode cX1_truth 0 = .ok (.iload_n 0, 1) := by decide +kernel
theorem dX1_truth_1 : decode cX1_truth 1 = .ok (.ifCond .eq 7, 3) := by decide +kernel
theorem dX1_truth_4 : decode cX1_truth 4 = .ok (.iconst 1, 1) := by decide +kernel
theorem dX1_truth_5 : decode cX1_truth 5 = .ok (.goto 4, 3) := by decide +kernel
theorem dX1_truth_8 : decode cX1_truth 8 = .ok (.iconst 0, 1) := by decide +kernel
theorem dX1_truth_9 : decode cX1_truth 9 = .ok (.ireturn, 1) := by decide +kernel
theorem dX2_init_0 : decode cX2_init 0 = .ok (.aload_n 0, 1) := by decide +kernel
theorem dX2_init_1 : decode cX2_init 1 = .ok (.invokespecial 3, 3) := by decide +kernel
theorem dX2_init_4 : decode cX2_init 4 = .ok (.aload_n 0, 1) := by decide +kernel
theorem dX2_init_5 : decode cX2_init 5 = .ok (.sipush 160, 3) := by decide +kernel
theorem dX2_init_8 : decode cX2_init 8 = .ok (.newarray .int, 2) := by decide +kernel
theorem dX2_init_10 : decode cX2_init 10 = .ok (.putfield 9, 3) := by decide +kernel
theorem dX2_init_13 : decode cX2_init 13 = .ok (.aload_n 0, 1) := by decide +kernel
theorem dX2_init_14 : decode cX2_init 14 = .ok (.sipush 160, 3) := by decide +kernel
theorem dX2_init_17 : decode cX2_init 17 = .ok (.newarray .int, 2) := by decide +kernel
theorem dX2_init_19 : decode cX2_init 19 = .ok (.putfield 15, 3) := by decide +kernel
theorem dX2_init_22 : decode cX2_init 22 = .ok (.return_, 1) := by decide +kernel
theorem dX2_takeIn_0 : decode cX2_takeIn 0 = .ok (.aload_n 0, 1) := by decide +kernel
theorem dX2_takeIn_1 : decode cX2_takeIn 1 = .ok (.getfield 18, 3) := by decide +kernel
theorem dX2_takeIn_4 : decode cX2_takeIn 4 = .ok (.sipush 160, 3) := by decide +kernel
theorem dX2_takeIn_7 : decode cX2_takeIn 7 = .ok (.if_icmp .lt 5, 3) := by decide +kernel
theorem dX2_takeIn_10 : decode cX2_takeIn 10 = .ok (.iconst 0, 1) := by decide +kernel
theorem dX2_takeIn_11 : decode cX2_takeIn 11 = .ok (.ireturn, 1) := by decide +kernel
theorem dX2_takeIn_12 : decode cX2_takeIn 12 = .ok (.aload_n 0, 1) := by decide +kernel
theorem dX2_takeIn_13 : decode cX2_takeIn 13 = .ok (.getfield 9, 3) := by decide +kernel
theorem dX2_takeIn_16 : decode cX2_takeIn 16 = .ok (.aload_n 0, 1) := by decide +kernel
theorem dX2_takeIn_17 : decode cX2_takeIn 17 = .ok (.getfield 18, 3) := by decide +kernel
theorem dX2_takeIn_20 : decode cX2_takeIn 20 = .ok (.iload_n 1, 1) := by decide +kernel
theorem dX2_takeIn_21 : decode cX2_takeIn 21 = .ok (.iastore, 1) := by decide +kernel
theorem dX2_takeIn_22 : decode cX2_takeIn 22 = .ok (.aload_n 0, 1) := by decide +kernel
theorem dX2_takeIn_23 : decode cX2_takeIn 23 = .ok (.dup, 1) := by decide +kernel
theorem dX2_takeIn_24 : decode cX2_takeIn 24 = .ok (.getfield 18, 3) := by decide +kernel
theorem dX2_takeIn_27 : decode cX2_takeIn 27 = .ok (.iconst 1, 1) := by decide +kernel
theorem dX2_takeIn_28 : decode cX2_takeIn 28 = .ok (.iadd, 1) := by decide +kernel
theorem dX2_takeIn_29 : decode cX2_takeIn 29 = .ok (.putfield 18, 3) := by decide +kernel
theorem dX2_takeIn_32 : decode cX2_takeIn 32 = .ok (.iconst 1, 1) := by decide +kernel
theorem dX2_takeIn_33 : decode cX2_takeIn 33 = .ok (.ireturn, 1) := by decide +kernel
theorem dX2_clear_0 : decode cX2_clear 0 = .ok (.aload_n 0, 1) := by decide +kernel
theorem dX2_clear_1 : decode cX2_clear 1 = .ok (.iconst 0, 1) := by decide +kernel
theorem dX2_clear_2 : decode cX2_clear 2 = .ok (.putfield 18, 3) := by decide +kernel
theorem dX2_clear_5 : decode cX2_clear 5 = .ok (.return_, 1) := by decide +kernel
set_option maxRecDepth 20000 in
theorem dX2_readText_0 : decode cX2_readText 0 = .ok (.aload_n 0, 1) := by decide +kernel
theorem dX2_readText_1 : decode cX2_readText 1 = .ok (.iconst (-1), 1) := by decide +kernel
theorem dX2_readText_2 : decode cX2_readText 2 = .ok (.putfield 22, 3) := by decide +kernel
theorem dX2_readText_5 : decode cX2_readText 5 = .ok (.aload_n 0, 1) := by decide +kernel
theorem dX2_readText_6 : decode cX2_readText 6 = .ok (.iconst 0, 1) := by decide +kernel
theorem dX2_readText_7 : decode cX2_readText 7 = .ok (.putfield 25, 3) := by decide +kernel
theorem dX2_readText_10 : decode cX2_readText 10 = .ok (.aload_n 0, 1) := by decide +kernel
theorem dX2_readText_11 : decode cX2_readText 11 = .ok (.iconst 0, 1) := by decide +kernel
theorem dX2_readText_12 : decode cX2_readText 12 = .ok (.putfield 28, 3) := by decide +kernel
theorem dX2_readText_15 : decode cX2_readText 15 = .ok (.aload_n 0, 1) := by decide +kernel
theorem dX2_readText_16 : decode cX2_readText 16 = .ok (.invokevirtual 31, 3) := by decide +kernel
theorem dX2_readText_19 : decode cX2_readText 19 = .ok (.aload_n 0, 1) := by decide +kernel
theorem dX2_readText_20 : decode cX2_readText 20 = .ok (.sipush 259, 3) := by decide +kernel
theorem dX2_readText_23 : decode cX2_readText 23 = .ok (.invokevirtual 34, 3) := by decide +kernel
theorem dX2_readText_26 : decode cX2_readText 26 = .ok (.istore_n 1, 1) := by decide +kernel
theorem dX2_readText_27 : decode cX2_readText 27 = .ok (.aload_n 0, 1) := by decide +kernel
theorem dX2_readText_28 : decode cX2_readText 28 = .ok (.sipush 260, 3) := by decide +kernel
theorem dX2_readText_31 : decode cX2_readText 31 = .ok (.invokevirtual 34, 3) := by decide +kernel
theorem dX2_readText_34 : decode cX2_readText 34 = .ok (.istore_n 2, 1) := by decide +kernel
theorem dX2_readText_35 : decode cX2_readText 35 = .ok (.aload_n 0, 1) := by decide +kernel
theorem dX2_readText_36 : decode cX2_readText 36 = .ok (.sipush 261, 3) := by decide +kernel
theorem dX2_readText_39 : decode cX2_readText 39 = .ok (.invokevirtual 34, 3) := by decide +kernel
theorem dX2_readText_42 : decode cX2_readText 42 = .ok (.pop, 1) := by decide +kernel
theorem dX2_readText_43 : decode cX2_readText 43 = .ok (.aload_n 0, 1) := by decide +kernel
theorem dX2_readText_44 : decode cX2_readText 44 = .ok (.sipush 256, 3) := by decide +kernel
theorem dX2_readText_47 : decode cX2_readText 47 = .ok (.invokevirtual 38, 3) := by decide +kernel
theorem dX2_readText_50 : decode cX2_readText 50 = .ok (.aload_n 0, 1) := by decide +kernel
theorem dX2_readText_51 : decode cX2_readText 51 = .ok (.getfield 22, 3) := by decide +kernel
theorem dX2_readText_54 : decode cX2_readText 54 = .ok (.iconst (-1), 1) := by decide +kernel
theorem dX2_readText_55 : decode cX2_readText 55 = .ok (.if_icmp .ne 26, 3) := by decide +kernel
theorem dX2_readText_58 : decode cX2_readText 58 = .ok (.new 42, 3) := by decide +kernel
theorem dX2_readText_61 : decode cX2_readText 61 = .ok (.dup, 1) := by decide +kernel
theorem dX2_readText_62 : decode cX2_readText 62 = .ok (.aload_n 0, 1) := by decide +kernel
theorem dX2_readText_63 : decode cX2_readText 63 = .ok (.getfield 15, 3) := by decide +kernel
theorem dX2_readText_66 : decode cX2_readText 66 = .ok (.aload_n 0, 1) := by decide +kernel
theorem dX2_readText_67 : decode cX2_readText 67 = .ok (.getfield 28, 3) := by decide +kernel
theorem dX2_readText_70 : decode cX2_readText 70 = .ok (.invokestatic 44, 3) := by decide +kernel
theorem dX2_readText_73 : decode cX2_readText 73 = .ok (.iload_n 1, 1) := by decide +kernel
theorem dX2_readText_74 : decode cX2_readText 74 = .ok (.iload_n 2, 1) := by decide +kernel
theorem dX2_readText_75 : decode cX2_readText 75 = .ok (.invokespecial 50, 3) := by decide +kernel
theorem dX2_readText_78 : decode cX2_readText 78 = .ok (.goto 4, 3) := by decide +kernel
theorem dX2_readText_81 : decode cX2_readText 81 = .ok (.aconst_null, 1) := by decide +kernel
theorem dX2_readText_82 : decode cX2_readText 82 = .ok (.areturn, 1) := by decide +kernel
set_option maxRecDepth 20000 in
theorem dX2_readPart_0 : decode cX2_readPart 0 = .ok (.aload_n 0, 1) := by decide +kernel
theorem dX2_readPart_1 : decode cX2_readPart 1 = .ok (.iload_n 1, 1) := by decide +kernel
theorem dX2_readPart_2 : decode cX2_readPart 2 = .ok (.invokevirtual 38, 3) := by decide +kernel
theorem dX2_readPart_5 : decode cX2_readPart 5 = .ok (.aload_n 0, 1) := by decide +kernel
theorem dX2_readPart_6 : decode cX2_readPart 6 = .ok (.iconst 0, 1) := by decide +kernel
theorem dX2_readPart_7 : decode cX2_readPart 7 = .ok (.invokevirtual 53, 3) := by decide +kernel
theorem dX2_readPart_10 : decode cX2_readPart 10 = .ok (.aload_n 0, 1) := by decide +kernel
theorem dX2_readPart_11 : decode cX2_readPart 11 = .ok (.bipush 59, 2) := by decide +kernel
theorem dX2_readPart_13 : decode cX2_readPart 13 = .ok (.invokevirtual 38, 3) := by decide +kernel
theorem dX2_readPart_16 : decode cX2_readPart 16 = .ok (.aload_n 0, 1) := by decide +kernel
theorem dX2_readPart_17 : decode cX2_readPart 17 = .ok (.getfield 28, 3) := by decide +kernel
theorem dX2_readPart_20 : decode cX2_readPart 20 = .ok (.ireturn, 1) := by decide +kernel
set_option maxRecDepth 20000 in
theorem dX2_readE_0 : decode cX2_readE 0 = .ok (.aload_n 0, 1) := by decide +kernel
theorem dX2_readE_1 : decode cX2_readE 1 = .ok (.iload_n 1, 1) := by decide +kernel
theorem dX2_readE_2 : decode cX2_readE 2 = .ok (.invokevirtual 56, 3) := by decide +kernel
theorem dX2_readE_5 : decode cX2_readE 5 = .ok (.iconst 0, 1) := by decide +kernel
theorem dX2_readE_6 : decode cX2_readE 6 = .ok (.istore_n 2, 1) := by decide +kernel
theorem dX2_readE_7 : decode cX2_readE 7 = .ok (.iload_n 2, 1) := by decide +kernel
theorem dX2_readE_8 : decode cX2_readE 8 = .ok (.sipush 160, 3) := by decide +kernel
theorem dX2_readE_11 : decode cX2_readE 11 = .ok (.if_icmp .ge 34, 3) := by decide +kernel
theorem dX2_readE_14 : decode cX2_readE 14 = .ok (.aload_n 0, 1) := by decide +kernel
theorem dX2_readE_15 : decode cX2_readE 15 = .ok (.getfield 59, 3) := by decide +kernel
theorem dX2_readE_18 : decode cX2_readE 18 = .ok (.sipush 262, 3) := by decide +kernel
theorem dX2_readE_21 : decode cX2_readE 21 = .ok (.if_icmp .ne 24, 3) := by decide +kernel
theorem dX2_readE_24 : decode cX2_readE 24 = .ok (.aload_n 0, 1) := by decide +kernel
theorem dX2_readE_25 : decode cX2_readE 25 = .ok (.invokevirtual 31, 3) := by decide +kernel
theorem dX2_readE_28 : decode cX2_readE 28 = .ok (.aload_n 0, 1) := by decide +kernel
theorem dX2_readE_29 : decode cX2_readE 29 = .ok (.iload_n 1, 1) := by decide +kernel
theorem dX2_readE_30 : decode cX2_readE 30 = .ok (.invokevirtual 56, 3) := by decide +kernel
theorem dX2_readE_33 : decode cX2_readE 33 = .ok (.aload_n 0, 1) := by decide +kernel
theorem dX2_readE_34 : decode cX2_readE 34 = .ok (.bipush (-9), 2) := by decide +kernel
theorem dX2_readE_36 : decode cX2_readE 36 = .ok (.invokevirtual 62, 3) := by decide +kernel
theorem dX2_readE_39 : decode cX2_readE 39 = .ok (.iinc 2 1, 3) := by decide +kernel
theorem dX2_readE_42 : decode cX2_readE 42 = .ok (.goto (-35), 3) := by decide +kernel
theorem dX2_readE_45 : decode cX2_readE 45 = .ok (.return_, 1) := by decide +kernel
set_option maxRecDepth 20000 in
theorem dX2_readAnd_0 : decode cX2_readAnd 0 = .ok (.aload_n 0, 1) := by decide +kernel
theorem dX2_readAnd_1 : decode cX2_readAnd 1 = .ok (.iload_n 1, 1) := by decide +kernel
theorem dX2_readAnd_2 : decode cX2_readAnd 2 = .ok (.invokevirtual 65, 3) := by decide +kernel
theorem dX2_readAnd_5 : decode cX2_readAnd 5 = .ok (.iconst 0, 1) := by decide +kernel
theorem dX2_readAnd_6 : decode cX2_readAnd 6 = .ok (.istore_n 2, 1) := by decide +kernel
theorem dX2_readAnd_7 : decode cX2_readAnd 7 = .ok (.iload_n 2, 1) := by decide +kernel
theorem dX2_readAnd_8 : decode cX2_readAnd 8 = .ok (.sipush 160, 3) := by decide +kernel
theorem dX2_readAnd_11 : decode cX2_readAnd 11 = .ok (.if_icmp .ge 34, 3) := by decide +kernel
theorem dX2_readAnd_14 : decode cX2_readAnd 14 = .ok (.aload_n 0, 1) := by decide +kernel
theorem dX2_readAnd_15 : decode cX2_readAnd 15 = .ok (.getfield 59, 3) := by decide +kernel
theorem dX2_readAnd_18 : decode cX2_readAnd 18 = .ok (.sipush 263, 3) := by decide +kernel
theorem dX2_readAnd_21 : decode cX2_readAnd 21 = .ok (.if_icmp .ne 24, 3) := by decide +kernel
theorem dX2_readAnd_24 : decode cX2_readAnd 24 = .ok (.aload_n 0, 1) := by decide +kernel
theorem dX2_readAnd_25 : decode cX2_readAnd 25 = .ok (.invokevirtual 31, 3) := by decide +kernel
theorem dX2_readAnd_28 : decode cX2_readAnd 28 = .ok (.aload_n 0, 1) := by decide +kernel
theorem dX2_readAnd_29 : decode cX2_readAnd 29 = .ok (.iload_n 1, 1) := by decide +kernel
theorem dX2_readAnd_30 : decode cX2_readAnd 30 = .ok (.invokevirtual 65, 3) := by decide +kernel
theorem dX2_readAnd_33 : decode cX2_readAnd 33 = .ok (.aload_n 0, 1) := by decide +kernel
theorem dX2_readAnd_34 : decode cX2_readAnd 34 = .ok (.bipush (-10), 2) := by decide +kernel
theorem dX2_readAnd_36 : decode cX2_readAnd 36 = .ok (.invokevirtual 62, 3) := by decide +kernel
theorem dX2_readAnd_39 : decode cX2_readAnd 39 = .ok (.iinc 2 1, 3) := by decide +kernel
theorem dX2_readAnd_42 : decode cX2_readAnd 42 = .ok (.goto (-35), 3) := by decide +kernel
theorem dX2_readAnd_45 : decode cX2_readAnd 45 = .ok (.return_, 1) := by decide +kernel
set_option maxRecDepth 20000 in
theorem dX2_readNot_0 : decode cX2_readNot 0 = .ok (.aload_n 0, 1) := by decide +kernel
theorem dX2_readNot_1 : decode cX2_readNot 1 = .ok (.getfield 59, 3) := by decide +kernel
theorem dX2_readNot_4 : decode cX2_readNot 4 = .ok (.sipush 264, 3) := by decide +kernel
theorem dX2_readNot_7 : decode cX2_readNot 7 = .ok (.if_icmp .ne 25, 3) := by decide +kernel
theorem dX2_readNot_10 : decode cX2_readNot 10 = .ok (.aload_n 0, 1) := by decide +kernel
theorem dX2_readNot_11 : decode cX2_readNot 11 = .ok (.iload_n 1, 1) := by decide +kernel
theorem dX2_readNot_12 : decode cX2_readNot 12 = .ok (.invokevirtual 68, 3) := by decide +kernel
theorem dX2_readNot_15 : decode cX2_readNot 15 = .ok (.ifCond .eq 16, 3) := by decide +kernel
theorem dX2_readNot_18 : decode cX2_readNot 18 = .ok (.aload_n 0, 1) := by decide +kernel
theorem dX2_readNot_19 : decode cX2_readNot 19 = .ok (.iload_n 1, 1) := by decide +kernel
theorem dX2_readNot_20 : decode cX2_readNot 20 = .ok (.iconst 1, 1) := by decide +kernel
theorem dX2_readNot_21 : decode cX2_readNot 21 = .ok (.iadd, 1) := by decide +kernel
theorem dX2_readNot_22 : decode cX2_readNot 22 = .ok (.invokevirtual 65, 3) := by decide +kernel
theorem dX2_readNot_25 : decode cX2_readNot 25 = .ok (.aload_n 0, 1) := by decide +kernel
theorem dX2_readNot_26 : decode cX2_readNot 26 = .ok (.bipush (-7), 2) := by decide +kernel
theorem dX2_readNot_28 : decode cX2_readNot 28 = .ok (.invokevirtual 62, 3) := by decide +kernel
theorem dX2_readNot_31 : decode cX2_readNot 31 = .ok (.return_, 1) := by decide +kernel
theorem dX2_readNot_32 : decode cX2_readNot 32 = .ok (.aload_n 0, 1) := by decide +kernel
theorem dX2_readNot_33 : decode cX2_readNot 33 = .ok (.iload_n 1, 1) := by decide +kernel
theorem dX2_readNot_34 : decode cX2_readNot 34 = .ok (.invokevirtual 72, 3) := by decide +kernel
theorem dX2_readNot_37 : decode cX2_readNot 37 = .ok (.aload_n 0, 1) := by decide +kernel
theorem dX2_readNot_38 : decode cX2_readNot 38 = .ok (.getfield 59, 3) := by decide +kernel
theorem dX2_readNot_41 : decode cX2_readNot 41 = .ok (.bipush 60, 2) := by decide +kernel
theorem dX2_readNot_43 : decode cX2_readNot 43 = .ok (.if_icmp .eq 12, 3) := by decide +kernel
theorem dX2_readNot_46 : decode cX2_readNot 46 = .ok (.aload_n 0, 1) := by decide +kernel
theorem dX2_readNot_47 : decode cX2_readNot 47 = .ok (.getfield 59, 3) := by decide +kernel
theorem dX2_readNot_50 : decode cX2_readNot 50 = .ok (.bipush 61, 2) := by decide +kernel
theorem dX2_readNot_52 : decode cX2_readNot 52 = .ok (.if_icmp .ne 34, 3) := by decide +kernel
theorem dX2_readNot_55 : decode cX2_readNot 55 = .ok (.aload_n 0, 1) := by decide +kernel
theorem dX2_readNot_56 : decode cX2_readNot 56 = .ok (.getfield 59, 3) := by decide +kernel
theorem dX2_readNot_59 : decode cX2_readNot 59 = .ok (.bipush 60, 2) := by decide +kernel
theorem dX2_readNot_61 : decode cX2_readNot 61 = .ok (.if_icmp .ne 8, 3) := by decide +kernel
theorem dX2_readNot_64 : decode cX2_readNot 64 = .ok (.bipush (-11), 2) := by decide +kernel
theorem dX2_readNot_66 : decode cX2_readNot 66 = .ok (.goto 5, 3) := by decide +kernel
theorem dX2_readNot_69 : decode cX2_readNot 69 = .ok (.bipush (-12), 2) := by decide +kernel
theorem dX2_readNot_71 : decode cX2_readNot 71 = .ok (.istore_n 2, 1) := by decide +kernel
theorem dX2_readNot_72 : decode cX2_readNot 72 = .ok (.aload_n 0, 1) := by decide +kernel
theorem dX2_readNot_73 : decode cX2_readNot 73 = .ok (.invokevirtual 31, 3) := by decide +kernel
theorem dX2_readNot_76 : decode cX2_readNot 76 = .ok (.aload_n 0, 1) := by decide +kernel
theorem dX2_readNot_77 : decode cX2_readNot 77 = .ok (.iload_n 1, 1) := by decide +kernel
theorem dX2_readNot_78 : decode cX2_readNot 78 = .ok (.invokevirtual 72, 3) := by decide +kernel
theorem dX2_readNot_81 : decode cX2_readNot 81 = .ok (.aload_n 0, 1) := by decide +kernel
theorem dX2_readNot_82 : decode cX2_readNot 82 = .ok (.iload_n 2, 1) := by decide +kernel
theorem dX2_readNot_83 : decode cX2_readNot 83 = .ok (.invokevirtual 62, 3) := by decide +kernel
theorem dX2_readNot_86 : decode cX2_readNot 86 = .ok (.return_, 1) := by decide +kernel
set_option maxRecDepth 20000 in
theorem dX2_readSum_0 : decode cX2_readSum 0 = .ok (.aload_n 0, 1) := by decide +kernel
theorem dX2_readSum_1 : decode cX2_readSum 1 = .ok (.iload_n 1, 1) := by decide +kernel
theorem dX2_readSum_2 : decode cX2_readSum 2 = .ok (.invokevirtual 75, 3) := by decide +kernel
theorem dX2_readSum_5 : decode cX2_readSum 5 = .ok (.iconst 0, 1) := by decide +kernel
theorem dX2_readSum_6 : decode cX2_readSum 6 = .ok (.istore_n 2, 1) := by decide +kernel
theorem dX2_readSum_7 : decode cX2_readSum 7 = .ok (.iload_n 2, 1) := by decide +kernel
theorem dX2_readSum_8 : decode cX2_readSum 8 = .ok (.sipush 160, 3) := by decide +kernel
theorem dX2_readSum_11 : decode cX2_readSum 11 = .ok (.if_icmp .ge 58, 3) := by decide +kernel
theorem dX2_readSum_14 : decode cX2_readSum 14 = .ok (.aload_n 0, 1) := by decide +kernel
theorem dX2_readSum_15 : decode cX2_readSum 15 = .ok (.getfield 59, 3) := by decide +kernel
theorem dX2_readSum_18 : decode cX2_readSum 18 = .ok (.bipush 43, 2) := by decide +kernel
theorem dX2_readSum_20 : decode cX2_readSum 20 = .ok (.if_icmp .eq 12, 3) := by decide +kernel
theorem dX2_readSum_23 : decode cX2_readSum 23 = .ok (.aload_n 0, 1) := by decide +kernel
theorem dX2_readSum_24 : decode cX2_readSum 24 = .ok (.getfield 59, 3) := by decide +kernel
theorem dX2_readSum_27 : decode cX2_readSum 27 = .ok (.bipush 45, 2) := by decide +kernel
theorem dX2_readSum_29 : decode cX2_readSum 29 = .ok (.if_icmp .ne 40, 3) := by decide +kernel
theorem dX2_readSum_32 : decode cX2_readSum 32 = .ok (.aload_n 0, 1) := by decide +kernel
theorem dX2_readSum_33 : decode cX2_readSum 33 = .ok (.getfield 59, 3) := by decide +kernel
theorem dX2_readSum_36 : decode cX2_readSum 36 = .ok (.bipush 43, 2) := by decide +kernel
theorem dX2_readSum_38 : decode cX2_readSum 38 = .ok (.if_icmp .ne 8, 3) := by decide +kernel
theorem dX2_readSum_41 : decode cX2_readSum 41 = .ok (.bipush (-13), 2) := by decide +kernel
theorem dX2_readSum_43 : decode cX2_readSum 43 = .ok (.goto 5, 3) := by decide +kernel
theorem dX2_readSum_46 : decode cX2_readSum 46 = .ok (.bipush (-14), 2) := by decide +kernel
theorem dX2_readSum_48 : decode cX2_readSum 48 = .ok (.istore_n 3, 1) := by decide +kernel
theorem dX2_readSum_49 : decode cX2_readSum 49 = .ok (.aload_n 0, 1) := by decide +kernel
theorem dX2_readSum_50 : decode cX2_readSum 50 = .ok (.invokevirtual 31, 3) := by decide +kernel
theorem dX2_readSum_53 : decode cX2_readSum 53 = .ok (.aload_n 0, 1) := by decide +kernel
theorem dX2_readSum_54 : decode cX2_readSum 54 = .ok (.iload_n 1, 1) := by decide +kernel
theorem dX2_readSum_55 : decode cX2_readSum 55 = .ok (.invokevirtual 75, 3) := by decide +kernel
theorem dX2_readSum_58 : decode cX2_readSum 58 = .ok (.aload_n 0, 1) := by decide +kernel
theorem dX2_readSum_59 : decode cX2_readSum 59 = .ok (.iload_n 3, 1) := by decide +kernel
theorem dX2_readSum_60 : decode cX2_readSum 60 = .ok (.invokevirtual 62, 3) := by decide +kernel
theorem dX2_readSum_63 : decode cX2_readSum 63 = .ok (.iinc 2 1, 3) := by decide +kernel
theorem dX2_readSum_66 : decode cX2_readSum 66 = .ok (.goto (-59), 3) := by decide +kernel
theorem dX2_readSum_69 : decode cX2_readSum 69 = .ok (.return_, 1) := by decide +kernel
set_option maxRecDepth 20000 in
theorem dX2_readTerm_0 : decode cX2_readTerm 0 = .ok (.aload_n 0, 1) := by decide +kernel
theorem dX2_readTerm_1 : decode cX2_readTerm 1 = .ok (.iload_n 1, 1) := by decide +kernel
theorem dX2_readTerm_2 : decode cX2_readTerm 2 = .ok (.invokevirtual 78, 3) := by decide +kernel
theorem dX2_readTerm_5 : decode cX2_readTerm 5 = .ok (.iconst 0, 1) := by decide +kernel
theorem dX2_readTerm_6 : decode cX2_readTerm 6 = .ok (.istore_n 2, 1) := by decide +kernel
theorem dX2_readTerm_7 : decode cX2_readTerm 7 = .ok (.iload_n 2, 1) := by decide +kernel
theorem dX2_readTerm_8 : decode cX2_readTerm 8 = .ok (.sipush 160, 3) := by decide +kernel
theorem dX2_readTerm_11 : decode cX2_readTerm 11 = .ok (.if_icmp .ge 33, 3) := by decide +kernel
theorem dX2_readTerm_14 : decode cX2_readTerm 14 = .ok (.aload_n 0, 1) := by decide +kernel
theorem dX2_readTerm_15 : decode cX2_readTerm 15 = .ok (.getfield 59, 3) := by decide +kernel
theorem dX2_readTerm_18 : decode cX2_readTerm 18 = .ok (.bipush 42, 2) := by decide +kernel
theorem dX2_readTerm_20 : decode cX2_readTerm 20 = .ok (.if_icmp .ne 24, 3) := by decide +kernel
theorem dX2_readTerm_23 : decode cX2_readTerm 23 = .ok (.aload_n 0, 1) := by decide +kernel
theorem dX2_readTerm_24 : decode cX2_readTerm 24 = .ok (.invokevirtual 31, 3) := by decide +kernel
theorem dX2_readTerm_27 : decode cX2_readTerm 27 = .ok (.aload_n 0, 1) := by decide +kernel
theorem dX2_readTerm_28 : decode cX2_readTerm 28 = .ok (.iload_n 1, 1) := by decide +kernel
theorem dX2_readTerm_29 : decode cX2_readTerm 29 = .ok (.invokevirtual 78, 3) := by decide +kernel
theorem dX2_readTerm_32 : decode cX2_readTerm 32 = .ok (.aload_n 0, 1) := by decide +kernel
theorem dX2_readTerm_33 : decode cX2_readTerm 33 = .ok (.bipush (-15), 2) := by decide +kernel
theorem dX2_readTerm_35 : decode cX2_readTerm 35 = .ok (.invokevirtual 62, 3) := by decide +kernel
theorem dX2_readTerm_38 : decode cX2_readTerm 38 = .ok (.iinc 2 1, 3) := by decide +kernel
theorem dX2_readTerm_41 : decode cX2_readTerm 41 = .ok (.goto (-34), 3) := by decide +kernel
theorem dX2_readTerm_44 : decode cX2_readTerm 44 = .ok (.return_, 1) := by decide +kernel
set_option maxRecDepth 20000 in
theorem dX2_readOne_0 : decode cX2_readOne 0 = .ok (.aload_n 0, 1) := by decide +kernel
theorem dX2_readOne_1 : decode cX2_readOne 1 = .ok (.getfield 59, 3) := by decide +kernel
theorem dX2_readOne_4 : decode cX2_readOne 4 = .ok (.sipush 257, 3) := by decide +kernel
theorem dX2_readOne_7 : decode cX2_readOne 7 = .ok (.if_icmp .ne 18, 3) := by decide +kernel
theorem dX2_readOne_10 : decode cX2_readOne 10 = .ok (.aload_n 0, 1) := by decide +kernel
theorem dX2_readOne_11 : decode cX2_readOne 11 = .ok (.aload_n 0, 1) := by decide +kernel
theorem dX2_readOne_12 : decode cX2_readOne 12 = .ok (.getfield 81, 3) := by decide +kernel
theorem dX2_readOne_15 : decode cX2_readOne 15 = .ok (.invokevirtual 62, 3) := by decide +kernel
theorem dX2_readOne_18 : decode cX2_readOne 18 = .ok (.aload_n 0, 1) := by decide +kernel
theorem dX2_readOne_19 : decode cX2_readOne 19 = .ok (.invokevirtual 31, 3) := by decide +kernel
theorem dX2_readOne_22 : decode cX2_readOne 22 = .ok (.goto 95, 3) := by decide +kernel
theorem dX2_readOne_25 : decode cX2_readOne 25 = .ok (.aload_n 0, 1) := by decide +kernel
theorem dX2_readOne_26 : decode cX2_readOne 26 = .ok (.getfield 59, 3) := by decide +kernel
theorem dX2_readOne_29 : decode cX2_readOne 29 = .ok (.ifCond .ge 18, 3) := by decide +kernel
theorem dX2_readOne_32 : decode cX2_readOne 32 = .ok (.aload_n 0, 1) := by decide +kernel
theorem dX2_readOne_33 : decode cX2_readOne 33 = .ok (.aload_n 0, 1) := by decide +kernel
theorem dX2_readOne_34 : decode cX2_readOne 34 = .ok (.getfield 59, 3) := by decide +kernel
theorem dX2_readOne_37 : decode cX2_readOne 37 = .ok (.invokevirtual 62, 3) := by decide +kernel
theorem dX2_readOne_40 : decode cX2_readOne 40 = .ok (.aload_n 0, 1) := by decide +kernel
theorem dX2_readOne_41 : decode cX2_readOne 41 = .ok (.invokevirtual 31, 3) := by decide +kernel
theorem dX2_readOne_44 : decode cX2_readOne 44 = .ok (.goto 73, 3) := by decide +kernel
theorem dX2_readOne_47 : decode cX2_readOne 47 = .ok (.aload_n 0, 1) := by decide +kernel
theorem dX2_readOne_48 : decode cX2_readOne 48 = .ok (.getfield 59, 3) := by decide +kernel
theorem dX2_readOne_51 : decode cX2_readOne 51 = .ok (.bipush 45, 2) := by decide +kernel
theorem dX2_readOne_53 : decode cX2_readOne 53 = .ok (.if_icmp .ne 27, 3) := by decide +kernel
theorem dX2_readOne_56 : decode cX2_readOne 56 = .ok (.aload_n 0, 1) := by decide +kernel
theorem dX2_readOne_57 : decode cX2_readOne 57 = .ok (.iload_n 1, 1) := by decide +kernel
theorem dX2_readOne_58 : decode cX2_readOne 58 = .ok (.invokevirtual 68, 3) := by decide +kernel
theorem dX2_readOne_61 : decode cX2_readOne 61 = .ok (.ifCond .eq 56, 3) := by decide +kernel
theorem dX2_readOne_64 : decode cX2_readOne 64 = .ok (.aload_n 0, 1) := by decide +kernel
theorem dX2_readOne_65 : decode cX2_readOne 65 = .ok (.iload_n 1, 1) := by decide +kernel
theorem dX2_readOne_66 : decode cX2_readOne 66 = .ok (.iconst 1, 1) := by decide +kernel
theorem dX2_readOne_67 : decode cX2_readOne 67 = .ok (.iadd, 1) := by decide +kernel
theorem dX2_readOne_68 : decode cX2_readOne 68 = .ok (.invokevirtual 78, 3) := by decide +kernel
theorem dX2_readOne_71 : decode cX2_readOne 71 = .ok (.aload_n 0, 1) := by decide +kernel
theorem dX2_readOne_72 : decode cX2_readOne 72 = .ok (.bipush (-8), 2) := by decide +kernel
theorem dX2_readOne_74 : decode cX2_readOne 74 = .ok (.invokevirtual 62, 3) := by decide +kernel
theorem dX2_readOne_77 : decode cX2_readOne 77 = .ok (.goto 40, 3) := by decide +kernel
theorem dX2_readOne_80 : decode cX2_readOne 80 = .ok (.aload_n 0, 1) := by decide +kernel
theorem dX2_readOne_81 : decode cX2_readOne 81 = .ok (.getfield 59, 3) := by decide +kernel
theorem dX2_readOne_84 : decode cX2_readOne 84 = .ok (.bipush 40, 2) := by decide +kernel
theorem dX2_readOne_86 : decode cX2_readOne 86 = .ok (.if_icmp .ne 27, 3) := by decide +kernel
theorem dX2_readOne_89 : decode cX2_readOne 89 = .ok (.aload_n 0, 1) := by decide +kernel
theorem dX2_readOne_90 : decode cX2_readOne 90 = .ok (.iload_n 1, 1) := by decide +kernel
theorem dX2_readOne_91 : decode cX2_readOne 91 = .ok (.invokevirtual 68, 3) := by decide +kernel
theorem dX2_readOne_94 : decode cX2_readOne 94 = .ok (.ifCond .eq 23, 3) := by decide +kernel
theorem dX2_readOne_97 : decode cX2_readOne 97 = .ok (.aload_n 0, 1) := by decide +kernel
theorem dX2_readOne_98 : decode cX2_readOne 98 = .ok (.iload_n 1, 1) := by decide +kernel
theorem dX2_readOne_99 : decode cX2_readOne 99 = .ok (.iconst 1, 1) := by decide +kernel
theorem dX2_readOne_100 : decode cX2_readOne 100 = .ok (.iadd, 1) := by decide +kernel
theorem dX2_readOne_101 : decode cX2_readOne 101 = .ok (.invokevirtual 53, 3) := by decide +kernel
theorem dX2_readOne_104 : decode cX2_readOne 104 = .ok (.aload_n 0, 1) := by decide +kernel
theorem dX2_readOne_105 : decode cX2_readOne 105 = .ok (.bipush 41, 2) := by decide +kernel
theorem dX2_readOne_107 : decode cX2_readOne 107 = .ok (.invokevirtual 38, 3) := by decide +kernel
theorem dX2_readOne_110 : decode cX2_readOne 110 = .ok (.goto 7, 3) := by decide +kernel
theorem dX2_readOne_113 : decode cX2_readOne 113 = .ok (.aload_n 0, 1) := by decide +kernel
theorem dX2_readOne_114 : decode cX2_readOne 114 = .ok (.invokevirtual 84, 3) := by decide +kernel
theorem dX2_readOne_117 : decode cX2_readOne 117 = .ok (.return_, 1) := by decide +kernel
set_option maxRecDepth 20000 in
theorem dX2_opens_0 : decode cX2_opens 0 = .ok (.iload_n 1, 1) := by decide +kernel
theorem dX2_opens_1 : decode cX2_opens 1 = .ok (.iconst 5, 1) := by decide +kernel
theorem dX2_opens_2 : decode cX2_opens 2 = .ok (.if_icmp .lt 9, 3) := by decide +kernel
theorem dX2_opens_5 : decode cX2_opens 5 = .ok (.aload_n 0, 1) := by decide +kernel
theorem dX2_opens_6 : decode cX2_opens 6 = .ok (.invokevirtual 84, 3) := by decide +kernel
theorem dX2_opens_9 : decode cX2_opens 9 = .ok (.iconst 0, 1) := by decide +kernel
theorem dX2_opens_10 : decode cX2_opens 10 = .ok (.ireturn, 1) := by decide +kernel
theorem dX2_opens_11 : decode cX2_opens 11 = .ok (.aload_n 0, 1) := by decide +kernel
theorem dX2_opens_12 : decode cX2_opens 12 = .ok (.invokevirtual 31, 3) := by decide +kernel
theorem dX2_opens_15 : decode cX2_opens 15 = .ok (.iconst 1, 1) := by decide +kernel
theorem dX2_opens_16 : decode cX2_opens 16 = .ok (.ireturn, 1) := by decide +kernel
set_option maxRecDepth 20000 in
theorem dX2_need_0 : decode cX2_need 0 = .ok (.aload_n 0, 1) := by decide +kernel
theorem dX2_need_1 : decode cX2_need 1 = .ok (.getfield 59, 3) := by decide +kernel
theorem dX2_need_4 : decode cX2_need 4 = .ok (.iload_n 1, 1) := by decide +kernel
theorem dX2_need_5 : decode cX2_need 5 = .ok (.if_icmp .ne 10, 3) := by decide +kernel
theorem dX2_need_8 : decode cX2_need 8 = .ok (.aload_n 0, 1) := by decide +kernel
theorem dX2_need_9 : decode cX2_need 9 = .ok (.invokevirtual 31, 3) := by decide +kernel
theorem dX2_need_12 : decode cX2_need 12 = .ok (.goto 7, 3) := by decide +kernel
theorem dX2_need_15 : decode cX2_need 15 = .ok (.aload_n 0, 1) := by decide +kernel
theorem dX2_need_16 : decode cX2_need 16 = .ok (.invokevirtual 84, 3) := by decide +kernel
theorem dX2_need_19 : decode cX2_need 19 = .ok (.return_, 1) := by decide +kernel
theorem dX2_refuse_0 : decode cX2_refuse 0 = .ok (.aload_n 0, 1) := by decide +kernel
theorem dX2_refuse_1 : decode cX2_refuse 1 = .ok (.getfield 22, 3) := by decide +kernel
theorem dX2_refuse_4 : decode cX2_refuse 4 = .ok (.iconst (-1), 1) := by decide +kernel
theorem dX2_refuse_5 : decode cX2_refuse 5 = .ok (.if_icmp .ne 11, 3) := by decide +kernel
theorem dX2_refuse_8 : decode cX2_refuse 8 = .ok (.aload_n 0, 1) := by decide +kernel
theorem dX2_refuse_9 : decode cX2_refuse 9 = .ok (.aload_n 0, 1) := by decide +kernel
theorem dX2_refuse_10 : decode cX2_refuse 10 = .ok (.getfield 87, 3) := by decide +kernel
theorem dX2_refuse_13 : decode cX2_refuse 13 = .ok (.putfield 22, 3) := by decide +kernel
theorem dX2_refuse_16 : decode cX2_refuse 16 = .ok (.aload_n 0, 1) := by decide +kernel
theorem dX2_refuse_17 : decode cX2_refuse 17 = .ok (.sipush 258, 3) := by decide +kernel
theorem dX2_refuse_20 : decode cX2_refuse 20 = .ok (.putfield 59, 3) := by decide +kernel
theorem dX2_refuse_23 : decode cX2_refuse 23 = .ok (.return_, 1) := by decide +kernel
theorem dX2_write_0 : decode cX2_write 0 = .ok (.aload_n 0, 1) := by decide +kernel
theorem dX2_write_1 : decode cX2_write 1 = .ok (.getfield 28, 3) := by decide +kernel
theorem dX2_write_4 : decode cX2_write 4 = .ok (.sipush 160, 3) := by decide +kernel
theorem dX2_write_7 : decode cX2_write 7 = .ok (.if_icmp .ge 23, 3) := by decide +kernel
theorem dX2_write_10 : decode cX2_write 10 = .ok (.aload_n 0, 1) := by decide +kernel
theorem dX2_write_11 : decode cX2_write 11 = .ok (.getfield 15, 3) := by decide +kernel
theorem dX2_write_14 : decode cX2_write 14 = .ok (.aload_n 0, 1) := by decide +kernel
theorem dX2_write_15 : decode cX2_write 15 = .ok (.getfield 28, 3) := by decide +kernel
theorem dX2_write_18 : decode cX2_write 18 = .ok (.iload_n 1, 1) := by decide +kernel
theorem dX2_write_19 : decode cX2_write 19 = .ok (.iastore, 1) := by decide +kernel
theorem dX2_write_20 : decode cX2_write 20 = .ok (.aload_n 0, 1) := by decide +kernel
theorem dX2_write_21 : decode cX2_write 21 = .ok (.dup, 1) := by decide +kernel
theorem dX2_write_22 : decode cX2_write 22 = .ok (.getfield 28, 3) := by decide +kernel
theorem dX2_write_25 : decode cX2_write 25 = .ok (.iconst 1, 1) := by decide +kernel
theorem dX2_write_26 : decode cX2_write 26 = .ok (.iadd, 1) := by decide +kernel
theorem dX2_write_27 : decode cX2_write 27 = .ok (.putfield 28, 3) := by decide +kernel
theorem dX2_write_30 : decode cX2_write 30 = .ok (.return_, 1) := by decide +kernel
set_option maxRecDepth 20000 in
theorem dX2_advance_0 : decode cX2_advance 0 = .ok (.aload_n 0, 1) := by decide +kernel
theorem dX2_advance_1 : decode cX2_advance 1 = .ok (.getfield 25, 3) := by decide +kernel
theorem dX2_advance_4 : decode cX2_advance 4 = .ok (.aload_n 0, 1) := by decide +kernel
theorem dX2_advance_5 : decode cX2_advance 5 = .ok (.getfield 18, 3) := by decide +kernel
theorem dX2_advance_8 : decode cX2_advance 8 = .ok (.if_icmp .ge 44, 3) := by decide +kernel
theorem dX2_advance_11 : decode cX2_advance 11 = .ok (.aload_n 0, 1) := by decide +kernel
theorem dX2_advance_12 : decode cX2_advance 12 = .ok (.getfield 9, 3) := by decide +kernel
theorem dX2_advance_15 : decode cX2_advance 15 = .ok (.aload_n 0, 1) := by decide +kernel
theorem dX2_advance_16 : decode cX2_advance 16 = .ok (.getfield 25, 3) := by decide +kernel
theorem dX2_advance_19 : decode cX2_advance 19 = .ok (.iaload, 1) := by decide +kernel
theorem dX2_advance_20 : decode cX2_advance 20 = .ok (.bipush 32, 2) := by decide +kernel
theorem dX2_advance_22 : decode cX2_advance 22 = .ok (.if_icmp .eq 17, 3) := by decide +kernel
theorem dX2_advance_25 : decode cX2_advance 25 = .ok (.aload_n 0, 1) := by decide +kernel
theorem dX2_advance_26 : decode cX2_advance 26 = .ok (.getfield 9, 3) := by decide +kernel
theorem dX2_advance_29 : decode cX2_advance 29 = .ok (.aload_n 0, 1) := by decide +kernel
theorem dX2_advance_30 : decode cX2_advance 30 = .ok (.getfield 25, 3) := by decide +kernel
theorem dX2_advance_33 : decode cX2_advance 33 = .ok (.iaload, 1) := by decide +kernel
theorem dX2_advance_34 : decode cX2_advance 34 = .ok (.bipush 10, 2) := by decide +kernel
theorem dX2_advance_36 : decode cX2_advance 36 = .ok (.if_icmp .ne 16, 3) := by decide +kernel
theorem dX2_advance_39 : decode cX2_advance 39 = .ok (.aload_n 0, 1) := by decide +kernel
theorem dX2_advance_40 : decode cX2_advance 40 = .ok (.dup, 1) := by decide +kernel
theorem dX2_advance_41 : decode cX2_advance 41 = .ok (.getfield 25, 3) := by decide +kernel
theorem dX2_advance_44 : decode cX2_advance 44 = .ok (.iconst 1, 1) := by decide +kernel
theorem dX2_advance_45 : decode cX2_advance 45 = .ok (.iadd, 1) := by decide +kernel
theorem dX2_advance_46 : decode cX2_advance 46 = .ok (.putfield 25, 3) := by decide +kernel
theorem dX2_advance_49 : decode cX2_advance 49 = .ok (.goto (-49), 3) := by decide +kernel
theorem dX2_advance_52 : decode cX2_advance 52 = .ok (.aload_n 0, 1) := by decide +kernel
theorem dX2_advance_53 : decode cX2_advance 53 = .ok (.aload_n 0, 1) := by decide +kernel
theorem dX2_advance_54 : decode cX2_advance 54 = .ok (.getfield 25, 3) := by decide +kernel
theorem dX2_advance_57 : decode cX2_advance 57 = .ok (.putfield 87, 3) := by decide +kernel
theorem dX2_advance_60 : decode cX2_advance 60 = .ok (.aload_n 0, 1) := by decide +kernel
theorem dX2_advance_61 : decode cX2_advance 61 = .ok (.getfield 25, 3) := by decide +kernel
theorem dX2_advance_64 : decode cX2_advance 64 = .ok (.aload_n 0, 1) := by decide +kernel
theorem dX2_advance_65 : decode cX2_advance 65 = .ok (.getfield 18, 3) := by decide +kernel
theorem dX2_advance_68 : decode cX2_advance 68 = .ok (.if_icmp .lt 13, 3) := by decide +kernel
theorem dX2_advance_71 : decode cX2_advance 71 = .ok (.aload_n 0, 1) := by decide +kernel
theorem dX2_advance_72 : decode cX2_advance 72 = .ok (.sipush 256, 3) := by decide +kernel
theorem dX2_advance_75 : decode cX2_advance 75 = .ok (.putfield 59, 3) := by decide +kernel
theorem dX2_advance_78 : decode cX2_advance 78 = .ok (.goto 134, 3) := by decide +kernel
theorem dX2_advance_81 : decode cX2_advance 81 = .ok (.aload_n 0, 1) := by decide +kernel
theorem dX2_advance_82 : decode cX2_advance 82 = .ok (.getfield 9, 3) := by decide +kernel
theorem dX2_advance_85 : decode cX2_advance 85 = .ok (.aload_n 0, 1) := by decide +kernel
theorem dX2_advance_86 : decode cX2_advance 86 = .ok (.getfield 25, 3) := by decide +kernel
theorem dX2_advance_89 : decode cX2_advance 89 = .ok (.iaload, 1) := by decide +kernel
theorem dX2_advance_90 : decode cX2_advance 90 = .ok (.invokestatic 90, 3) := by decide +kernel
theorem dX2_advance_93 : decode cX2_advance 93 = .ok (.ifCond .eq 53, 3) := by decide +kernel
theorem dX2_advance_96 : decode cX2_advance 96 = .ok (.aload_n 0, 1) := by decide +kernel
theorem dX2_advance_97 : decode cX2_advance 97 = .ok (.getfield 25, 3) := by decide +kernel
theorem dX2_advance_100 : decode cX2_advance 100 = .ok (.aload_n 0, 1) := by decide +kernel
theorem dX2_advance_101 : decode cX2_advance 101 = .ok (.getfield 18, 3) := by decide +kernel
theorem dX2_advance_104 : decode cX2_advance 104 = .ok (.if_icmp .ge 31, 3) := by decide +kernel
theorem dX2_advance_107 : decode cX2_advance 107 = .ok (.aload_n 0, 1) := by decide +kernel
theorem dX2_advance_108 : decode cX2_advance 108 = .ok (.getfield 9, 3) := by decide +kernel
theorem dX2_advance_111 : decode cX2_advance 111 = .ok (.aload_n 0, 1) := by decide +kernel
theorem dX2_advance_112 : decode cX2_advance 112 = .ok (.getfield 25, 3) := by decide +kernel
theorem dX2_advance_115 : decode cX2_advance 115 = .ok (.iaload, 1) := by decide +kernel
theorem dX2_advance_116 : decode cX2_advance 116 = .ok (.invokestatic 90, 3) := by decide +kernel
theorem dX2_advance_119 : decode cX2_advance 119 = .ok (.ifCond .eq 16, 3) := by decide +kernel
theorem dX2_advance_122 : decode cX2_advance 122 = .ok (.aload_n 0, 1) := by decide +kernel
theorem dX2_advance_123 : decode cX2_advance 123 = .ok (.dup, 1) := by decide +kernel
theorem dX2_advance_124 : decode cX2_advance 124 = .ok (.getfield 25, 3) := by decide +kernel
theorem dX2_advance_127 : decode cX2_advance 127 = .ok (.iconst 1, 1) := by decide +kernel
theorem dX2_advance_128 : decode cX2_advance 128 = .ok (.iadd, 1) := by decide +kernel
theorem dX2_advance_129 : decode cX2_advance 129 = .ok (.putfield 25, 3) := by decide +kernel
theorem dX2_advance_132 : decode cX2_advance 132 = .ok (.goto (-36), 3) := by decide +kernel
theorem dX2_advance_135 : decode cX2_advance 135 = .ok (.aload_n 0, 1) := by decide +kernel
theorem dX2_advance_136 : decode cX2_advance 136 = .ok (.aload_n 0, 1) := by decide +kernel
theorem dX2_advance_137 : decode cX2_advance 137 = .ok (.invokevirtual 93, 3) := by decide +kernel
theorem dX2_advance_140 : decode cX2_advance 140 = .ok (.putfield 59, 3) := by decide +kernel
theorem dX2_advance_143 : decode cX2_advance 143 = .ok (.goto 69, 3) := by decide +kernel
theorem dX2_advance_146 : decode cX2_advance 146 = .ok (.aload_n 0, 1) := by decide +kernel
theorem dX2_advance_147 : decode cX2_advance 147 = .ok (.getfield 9, 3) := by decide +kernel
theorem dX2_advance_150 : decode cX2_advance 150 = .ok (.aload_n 0, 1) := by decide +kernel
theorem dX2_advance_151 : decode cX2_advance 151 = .ok (.getfield 25, 3) := by decide +kernel
theorem dX2_advance_154 : decode cX2_advance 154 = .ok (.iaload, 1) := by decide +kernel
theorem dX2_advance_155 : decode cX2_advance 155 = .ok (.invokestatic 97, 3) := by decide +kernel
theorem dX2_advance_158 : decode cX2_advance 158 = .ok (.ifCond .eq 10, 3) := by decide +kernel
theorem dX2_advance_161 : decode cX2_advance 161 = .ok (.aload_n 0, 1) := by decide +kernel
theorem dX2_advance_162 : decode cX2_advance 162 = .ok (.invokevirtual 100, 3) := by decide +kernel
theorem dX2_advance_165 : decode cX2_advance 165 = .ok (.goto 47, 3) := by decide +kernel
theorem dX2_advance_168 : decode cX2_advance 168 = .ok (.aload_n 0, 1) := by decide +kernel
theorem dX2_advance_169 : decode cX2_advance 169 = .ok (.aload_n 0, 1) := by decide +kernel
theorem dX2_advance_170 : decode cX2_advance 170 = .ok (.getfield 9, 3) := by decide +kernel
theorem dX2_advance_173 : decode cX2_advance 173 = .ok (.aload_n 0, 1) := by decide +kernel
theorem dX2_advance_174 : decode cX2_advance 174 = .ok (.getfield 25, 3) := by decide +kernel
theorem dX2_advance_177 : decode cX2_advance 177 = .ok (.iaload, 1) := by decide +kernel
theorem dX2_advance_178 : decode cX2_advance 178 = .ok (.invokestatic 103, 3) := by decide +kernel
theorem dX2_advance_181 : decode cX2_advance 181 = .ok (.ifCond .eq 15, 3) := by decide +kernel
theorem dX2_advance_184 : decode cX2_advance 184 = .ok (.aload_n 0, 1) := by decide +kernel
theorem dX2_advance_185 : decode cX2_advance 185 = .ok (.getfield 9, 3) := by decide +kernel
theorem dX2_advance_188 : decode cX2_advance 188 = .ok (.aload_n 0, 1) := by decide +kernel
theorem dX2_advance_189 : decode cX2_advance 189 = .ok (.getfield 25, 3) := by decide +kernel
theorem dX2_advance_192 : decode cX2_advance 192 = .ok (.iaload, 1) := by decide +kernel
theorem dX2_advance_193 : decode cX2_advance 193 = .ok (.goto 6, 3) := by decide +kernel
theorem dX2_advance_196 : decode cX2_advance 196 = .ok (.sipush 258, 3) := by decide +kernel
theorem dX2_advance_199 : decode cX2_advance 199 = .ok (.putfield 59, 3) := by decide +kernel
theorem dX2_advance_202 : decode cX2_advance 202 = .ok (.aload_n 0, 1) := by decide +kernel
theorem dX2_advance_203 : decode cX2_advance 203 = .ok (.dup, 1) := by decide +kernel
theorem dX2_advance_204 : decode cX2_advance 204 = .ok (.getfield 25, 3) := by decide +kernel
theorem dX2_advance_207 : decode cX2_advance 207 = .ok (.iconst 1, 1) := by decide +kernel
theorem dX2_advance_208 : decode cX2_advance 208 = .ok (.iadd, 1) := by decide +kernel
theorem dX2_advance_209 : decode cX2_advance 209 = .ok (.putfield 25, 3) := by decide +kernel
theorem dX2_advance_212 : decode cX2_advance 212 = .ok (.return_, 1) := by decide +kernel
set_option maxRecDepth 20000 in
theorem dX2_readDigits_0 : decode cX2_readDigits 0 = .ok (.aload_n 0, 1) := by decide +kernel
theorem dX2_readDigits_1 : decode cX2_readDigits 1 = .ok (.iconst 0, 1) := by decide +kernel
theorem dX2_readDigits_2 : decode cX2_readDigits 2 = .ok (.putfield 81, 3) := by decide +kernel
theorem dX2_readDigits_5 : decode cX2_readDigits 5 = .ok (.aload_n 0, 1) := by decide +kernel
theorem dX2_readDigits_6 : decode cX2_readDigits 6 = .ok (.getfield 25, 3) := by decide +kernel
theorem dX2_readDigits_9 : decode cX2_readDigits 9 = .ok (.aload_n 0, 1) := by decide +kernel
theorem dX2_readDigits_10 : decode cX2_readDigits 10 = .ok (.getfield 18, 3) := by decide +kernel
theorem dX2_readDigits_13 : decode cX2_readDigits 13 = .ok (.if_icmp .ge 55, 3) := by decide +kernel
theorem dX2_readDigits_16 : decode cX2_readDigits 16 = .ok (.aload_n 0, 1) := by decide +kernel
theorem dX2_readDigits_17 : decode cX2_readDigits 17 = .ok (.getfield 9, 3) := by decide +kernel
theorem dX2_readDigits_20 : decode cX2_readDigits 20 = .ok (.aload_n 0, 1) := by decide +kernel
theorem dX2_readDigits_21 : decode cX2_readDigits 21 = .ok (.getfield 25, 3) := by decide +kernel
theorem dX2_readDigits_24 : decode cX2_readDigits 24 = .ok (.iaload, 1) := by decide +kernel
theorem dX2_readDigits_25 : decode cX2_readDigits 25 = .ok (.invokestatic 97, 3) := by decide +kernel
theorem dX2_readDigits_28 : decode cX2_readDigits 28 = .ok (.ifCond .eq 40, 3) := by decide +kernel
theorem dX2_readDigits_31 : decode cX2_readDigits 31 = .ok (.aload_n 0, 1) := by decide +kernel
theorem dX2_readDigits_32 : decode cX2_readDigits 32 = .ok (.bipush 10, 2) := by decide +kernel
theorem dX2_readDigits_34 : decode cX2_readDigits 34 = .ok (.aload_n 0, 1) := by decide +kernel
theorem dX2_readDigits_35 : decode cX2_readDigits 35 = .ok (.getfield 81, 3) := by decide +kernel
theorem dX2_readDigits_38 : decode cX2_readDigits 38 = .ok (.imul, 1) := by decide +kernel
theorem dX2_readDigits_39 : decode cX2_readDigits 39 = .ok (.aload_n 0, 1) := by decide +kernel
theorem dX2_readDigits_40 : decode cX2_readDigits 40 = .ok (.getfield 9, 3) := by decide +kernel
theorem dX2_readDigits_43 : decode cX2_readDigits 43 = .ok (.aload_n 0, 1) := by decide +kernel
theorem dX2_readDigits_44 : decode cX2_readDigits 44 = .ok (.getfield 25, 3) := by decide +kernel
theorem dX2_readDigits_47 : decode cX2_readDigits 47 = .ok (.iaload, 1) := by decide +kernel
theorem dX2_readDigits_48 : decode cX2_readDigits 48 = .ok (.iadd, 1) := by decide +kernel
theorem dX2_readDigits_49 : decode cX2_readDigits 49 = .ok (.bipush 48, 2) := by decide +kernel
theorem dX2_readDigits_51 : decode cX2_readDigits 51 = .ok (.isub, 1) := by decide +kernel
theorem dX2_readDigits_52 : decode cX2_readDigits 52 = .ok (.putfield 81, 3) := by decide +kernel
theorem dX2_readDigits_55 : decode cX2_readDigits 55 = .ok (.aload_n 0, 1) := by decide +kernel
theorem dX2_readDigits_56 : decode cX2_readDigits 56 = .ok (.dup, 1) := by decide +kernel
theorem dX2_readDigits_57 : decode cX2_readDigits 57 = .ok (.getfield 25, 3) := by decide +kernel
theorem dX2_readDigits_60 : decode cX2_readDigits 60 = .ok (.iconst 1, 1) := by decide +kernel
theorem dX2_readDigits_61 : decode cX2_readDigits 61 = .ok (.iadd, 1) := by decide +kernel
theorem dX2_readDigits_62 : decode cX2_readDigits 62 = .ok (.putfield 25, 3) := by decide +kernel
theorem dX2_readDigits_65 : decode cX2_readDigits 65 = .ok (.goto (-60), 3) := by decide +kernel
theorem dX2_readDigits_68 : decode cX2_readDigits 68 = .ok (.aload_n 0, 1) := by decide +kernel
theorem dX2_readDigits_69 : decode cX2_readDigits 69 = .ok (.aload_n 0, 1) := by decide +kernel
theorem dX2_readDigits_70 : decode cX2_readDigits 70 = .ok (.getfield 25, 3) := by decide +kernel
theorem dX2_readDigits_73 : decode cX2_readDigits 73 = .ok (.aload_n 0, 1) := by decide +kernel
theorem dX2_readDigits_74 : decode cX2_readDigits 74 = .ok (.getfield 87, 3) := by decide +kernel
theorem dX2_readDigits_77 : decode cX2_readDigits 77 = .ok (.isub, 1) := by decide +kernel
theorem dX2_readDigits_78 : decode cX2_readDigits 78 = .ok (.iconst 4, 1) := by decide +kernel
theorem dX2_readDigits_79 : decode cX2_readDigits 79 = .ok (.if_icmp .gt 9, 3) := by decide +kernel
theorem dX2_readDigits_82 : decode cX2_readDigits 82 = .ok (.sipush 257, 3) := by decide +kernel
theorem dX2_readDigits_85 : decode cX2_readDigits 85 = .ok (.goto 6, 3) := by decide +kernel
theorem dX2_readDigits_88 : decode cX2_readDigits 88 = .ok (.sipush 258, 3) := by decide +kernel
theorem dX2_readDigits_91 : decode cX2_readDigits 91 = .ok (.putfield 59, 3) := by decide +kernel
theorem dX2_readDigits_94 : decode cX2_readDigits 94 = .ok (.return_, 1) := by decide +kernel
set_option maxRecDepth 20000 in
theorem dX2_wordRead_0 : decode cX2_wordRead 0 = .ok (.aload_n 0, 1) := by decide +kernel
theorem dX2_wordRead_1 : decode cX2_wordRead 1 = .ok (.ldc 106, 2) := by decide +kernel
theorem dX2_wordRead_3 : decode cX2_wordRead 3 = .ok (.invokevirtual 108, 3) := by decide +kernel
theorem dX2_wordRead_6 : decode cX2_wordRead 6 = .ok (.ifCond .eq 7, 3) := by decide +kernel
theorem dX2_wordRead_9 : decode cX2_wordRead 9 = .ok (.iconst (-1), 1) := by decide +kernel
theorem dX2_wordRead_10 : decode cX2_wordRead 10 = .ok (.goto 166, 3) := by decide +kernel
theorem dX2_wordRead_13 : decode cX2_wordRead 13 = .ok (.aload_n 0, 1) := by decide +kernel
theorem dX2_wordRead_14 : decode cX2_wordRead 14 = .ok (.ldc 112, 2) := by decide +kernel
theorem dX2_wordRead_16 : decode cX2_wordRead 16 = .ok (.invokevirtual 108, 3) := by decide +kernel
theorem dX2_wordRead_19 : decode cX2_wordRead 19 = .ok (.ifCond .eq 8, 3) := by decide +kernel
theorem dX2_wordRead_22 : decode cX2_wordRead 22 = .ok (.bipush (-2), 2) := by decide +kernel
theorem dX2_wordRead_24 : decode cX2_wordRead 24 = .ok (.goto 152, 3) := by decide +kernel
theorem dX2_wordRead_27 : decode cX2_wordRead 27 = .ok (.aload_n 0, 1) := by decide +kernel
theorem dX2_wordRead_28 : decode cX2_wordRead 28 = .ok (.ldc 114, 2) := by decide +kernel
theorem dX2_wordRead_30 : decode cX2_wordRead 30 = .ok (.invokevirtual 108, 3) := by decide +kernel
theorem dX2_wordRead_33 : decode cX2_wordRead 33 = .ok (.ifCond .eq 8, 3) := by decide +kernel
theorem dX2_wordRead_36 : decode cX2_wordRead 36 = .ok (.bipush (-3), 2) := by decide +kernel
theorem dX2_wordRead_38 : decode cX2_wordRead 38 = .ok (.goto 138, 3) := by decide +kernel
theorem dX2_wordRead_41 : decode cX2_wordRead 41 = .ok (.aload_n 0, 1) := by decide +kernel
theorem dX2_wordRead_42 : decode cX2_wordRead 42 = .ok (.ldc 116, 2) := by decide +kernel
theorem dX2_wordRead_44 : decode cX2_wordRead 44 = .ok (.invokevirtual 108, 3) := by decide +kernel
theorem dX2_wordRead_47 : decode cX2_wordRead 47 = .ok (.ifCond .eq 8, 3) := by decide +kernel
theorem dX2_wordRead_50 : decode cX2_wordRead 50 = .ok (.bipush (-4), 2) := by decide +kernel
theorem dX2_wordRead_52 : decode cX2_wordRead 52 = .ok (.goto 124, 3) := by decide +kernel
theorem dX2_wordRead_55 : decode cX2_wordRead 55 = .ok (.aload_n 0, 1) := by decide +kernel
theorem dX2_wordRead_56 : decode cX2_wordRead 56 = .ok (.ldc 117, 2) := by decide +kernel
theorem dX2_wordRead_58 : decode cX2_wordRead 58 = .ok (.invokevirtual 108, 3) := by decide +kernel
theorem dX2_wordRead_61 : decode cX2_wordRead 61 = .ok (.ifCond .eq 8, 3) := by decide +kernel
theorem dX2_wordRead_64 : decode cX2_wordRead 64 = .ok (.bipush (-5), 2) := by decide +kernel
theorem dX2_wordRead_66 : decode cX2_wordRead 66 = .ok (.goto 110, 3) := by decide +kernel
theorem dX2_wordRead_69 : decode cX2_wordRead 69 = .ok (.aload_n 0, 1) := by decide +kernel
theorem dX2_wordRead_70 : decode cX2_wordRead 70 = .ok (.ldc 119, 2) := by decide +kernel
theorem dX2_wordRead_72 : decode cX2_wordRead 72 = .ok (.invokevirtual 108, 3) := by decide +kernel
theorem dX2_wordRead_75 : decode cX2_wordRead 75 = .ok (.ifCond .eq 8, 3) := by decide +kernel
theorem dX2_wordRead_78 : decode cX2_wordRead 78 = .ok (.bipush (-6), 2) := by decide +kernel
theorem dX2_wordRead_80 : decode cX2_wordRead 80 = .ok (.goto 96, 3) := by decide +kernel
theorem dX2_wordRead_83 : decode cX2_wordRead 83 = .ok (.aload_n 0, 1) := by decide +kernel
theorem dX2_wordRead_84 : decode cX2_wordRead 84 = .ok (.ldc 121, 2) := by decide +kernel
theorem dX2_wordRead_86 : decode cX2_wordRead 86 = .ok (.invokevirtual 108, 3) := by decide +kernel
theorem dX2_wordRead_89 : decode cX2_wordRead 89 = .ok (.ifCond .eq 9, 3) := by decide +kernel
theorem dX2_wordRead_92 : decode cX2_wordRead 92 = .ok (.sipush 259, 3) := by decide +kernel
theorem dX2_wordRead_95 : decode cX2_wordRead 95 = .ok (.goto 81, 3) := by decide +kernel
theorem dX2_wordRead_98 : decode cX2_wordRead 98 = .ok (.aload_n 0, 1) := by decide +kernel
theorem dX2_wordRead_99 : decode cX2_wordRead 99 = .ok (.ldc 123, 2) := by decide +kernel
theorem dX2_wordRead_101 : decode cX2_wordRead 101 = .ok (.invokevirtual 108, 3) := by decide +kernel
theorem dX2_wordRead_104 : decode cX2_wordRead 104 = .ok (.ifCond .eq 9, 3) := by decide +kernel
theorem dX2_wordRead_107 : decode cX2_wordRead 107 = .ok (.sipush 260, 3) := by decide +kernel
theorem dX2_wordRead_110 : decode cX2_wordRead 110 = .ok (.goto 66, 3) := by decide +kernel
theorem dX2_wordRead_113 : decode cX2_wordRead 113 = .ok (.aload_n 0, 1) := by decide +kernel
theorem dX2_wordRead_114 : decode cX2_wordRead 114 = .ok (.ldc 125, 2) := by decide +kernel
theorem dX2_wordRead_116 : decode cX2_wordRead 116 = .ok (.invokevirtual 108, 3) := by decide +kernel
theorem dX2_wordRead_119 : decode cX2_wordRead 119 = .ok (.ifCond .eq 9, 3) := by decide +kernel
theorem dX2_wordRead_122 : decode cX2_wordRead 122 = .ok (.sipush 261, 3) := by decide +kernel
theorem dX2_wordRead_125 : decode cX2_wordRead 125 = .ok (.goto 51, 3) := by decide +kernel
theorem dX2_wordRead_128 : decode cX2_wordRead 128 = .ok (.aload_n 0, 1) := by decide +kernel
theorem dX2_wordRead_129 : decode cX2_wordRead 129 = .ok (.ldc 127, 2) := by decide +kernel
theorem dX2_wordRead_131 : decode cX2_wordRead 131 = .ok (.invokevirtual 108, 3) := by decide +kernel
theorem dX2_wordRead_134 : decode cX2_wordRead 134 = .ok (.ifCond .eq 9, 3) := by decide +kernel
theorem dX2_wordRead_137 : decode cX2_wordRead 137 = .ok (.sipush 262, 3) := by decide +kernel
theorem dX2_wordRead_140 : decode cX2_wordRead 140 = .ok (.goto 36, 3) := by decide +kernel
theorem dX2_wordRead_143 : decode cX2_wordRead 143 = .ok (.aload_n 0, 1) := by decide +kernel
theorem dX2_wordRead_144 : decode cX2_wordRead 144 = .ok (.ldc 129, 2) := by decide +kernel
theorem dX2_wordRead_146 : decode cX2_wordRead 146 = .ok (.invokevirtual 108, 3) := by decide +kernel
theorem dX2_wordRead_149 : decode cX2_wordRead 149 = .ok (.ifCond .eq 9, 3) := by decide +kernel
theorem dX2_wordRead_152 : decode cX2_wordRead 152 = .ok (.sipush 263, 3) := by decide +kernel
theorem dX2_wordRead_155 : decode cX2_wordRead 155 = .ok (.goto 21, 3) := by decide +kernel
theorem dX2_wordRead_158 : decode cX2_wordRead 158 = .ok (.aload_n 0, 1) := by decide +kernel
theorem dX2_wordRead_159 : decode cX2_wordRead 159 = .ok (.ldc 131, 2) := by decide +kernel
theorem dX2_wordRead_161 : decode cX2_wordRead 161 = .ok (.invokevirtual 108, 3) := by decide +kernel
theorem dX2_wordRead_164 : decode cX2_wordRead 164 = .ok (.ifCond .eq 9, 3) := by decide +kernel
theorem dX2_wordRead_167 : decode cX2_wordRead 167 = .ok (.sipush 264, 3) := by decide +kernel
theorem dX2_wordRead_170 : decode cX2_wordRead 170 = .ok (.goto 6, 3) := by decide +kernel
theorem dX2_wordRead_173 : decode cX2_wordRead 173 = .ok (.sipush 258, 3) := by decide +kernel
theorem dX2_wordRead_176 : decode cX2_wordRead 176 = .ok (.ireturn, 1) := by decide +kernel
set_option maxRecDepth 20000 in
theorem dX2_spells_0 : decode cX2_spells 0 = .ok (.aload_n 0, 1) := by decide +kernel
theorem dX2_spells_1 : decode cX2_spells 1 = .ok (.getfield 25, 3) := by decide +kernel
theorem dX2_spells_4 : decode cX2_spells 4 = .ok (.aload_n 0, 1) := by decide +kernel
theorem dX2_spells_5 : decode cX2_spells 5 = .ok (.getfield 87, 3) := by decide +kernel
theorem dX2_spells_8 : decode cX2_spells 8 = .ok (.isub, 1) := by decide +kernel
theorem dX2_spells_9 : decode cX2_spells 9 = .ok (.aload_n 1, 1) := by decide +kernel
theorem dX2_spells_10 : decode cX2_spells 10 = .ok (.invokevirtual 133, 3) := by decide +kernel
theorem dX2_spells_13 : decode cX2_spells 13 = .ok (.if_icmp .eq 5, 3) := by decide +kernel
theorem dX2_spells_16 : decode cX2_spells 16 = .ok (.iconst 0, 1) := by decide +kernel
theorem dX2_spells_17 : decode cX2_spells 17 = .ok (.ireturn, 1) := by decide +kernel
theorem dX2_spells_18 : decode cX2_spells 18 = .ok (.iconst 0, 1) := by decide +kernel
theorem dX2_spells_19 : decode cX2_spells 19 = .ok (.istore_n 2, 1) := by decide +kernel
theorem dX2_spells_20 : decode cX2_spells 20 = .ok (.iload_n 2, 1) := by decide +kernel
theorem dX2_spells_21 : decode cX2_spells 21 = .ok (.aload_n 1, 1) := by decide +kernel
theorem dX2_spells_22 : decode cX2_spells 22 = .ok (.invokevirtual 133, 3) := by decide +kernel
theorem dX2_spells_25 : decode cX2_spells 25 = .ok (.if_icmp .ge 30, 3) := by decide +kernel
theorem dX2_spells_28 : decode cX2_spells 28 = .ok (.aload_n 0, 1) := by decide +kernel
theorem dX2_spells_29 : decode cX2_spells 29 = .ok (.getfield 9, 3) := by decide +kernel
theorem dX2_spells_32 : decode cX2_spells 32 = .ok (.aload_n 0, 1) := by decide +kernel
theorem dX2_spells_33 : decode cX2_spells 33 = .ok (.getfield 87, 3) := by decide +kernel
theorem dX2_spells_36 : decode cX2_spells 36 = .ok (.iload_n 2, 1) := by decide +kernel
theorem dX2_spells_37 : decode cX2_spells 37 = .ok (.iadd, 1) := by decide +kernel
theorem dX2_spells_38 : decode cX2_spells 38 = .ok (.iaload, 1) := by decide +kernel
theorem dX2_spells_39 : decode cX2_spells 39 = .ok (.aload_n 1, 1) := by decide +kernel
theorem dX2_spells_40 : decode cX2_spells 40 = .ok (.iload_n 2, 1) := by decide +kernel
theorem dX2_spells_41 : decode cX2_spells 41 = .ok (.invokevirtual 138, 3) := by decide +kernel
theorem dX2_spells_44 : decode cX2_spells 44 = .ok (.if_icmp .eq 5, 3) := by decide +kernel
theorem dX2_spells_47 : decode cX2_spells 47 = .ok (.iconst 0, 1) := by decide +kernel
theorem dX2_spells_48 : decode cX2_spells 48 = .ok (.ireturn, 1) := by decide +kernel
theorem dX2_spells_49 : decode cX2_spells 49 = .ok (.iinc 2 1, 3) := by decide +kernel
theorem dX2_spells_52 : decode cX2_spells 52 = .ok (.goto (-32), 3) := by decide +kernel
theorem dX2_spells_55 : decode cX2_spells 55 = .ok (.iconst 1, 1) := by decide +kernel
theorem dX2_spells_56 : decode cX2_spells 56 = .ok (.ireturn, 1) := by decide +kernel
theorem dX2_isLetter_0 : decode cX2_isLetter 0 = .ok (.iload_n 0, 1) := by decide +kernel
theorem dX2_isLetter_1 : decode cX2_isLetter 1 = .ok (.bipush 97, 2) := by decide +kernel
theorem dX2_isLetter_3 : decode cX2_isLetter 3 = .ok (.if_icmp .lt 13, 3) := by decide +kernel
theorem dX2_isLetter_6 : decode cX2_isLetter 6 = .ok (.iload_n 0, 1) := by decide +kernel
theorem dX2_isLetter_7 : decode cX2_isLetter 7 = .ok (.bipush 122, 2) := by decide +kernel
theorem dX2_isLetter_9 : decode cX2_isLetter 9 = .ok (.if_icmp .gt 7, 3) := by decide +kernel
theorem dX2_isLetter_12 : decode cX2_isLetter 12 = .ok (.iconst 1, 1) := by decide +kernel
theorem dX2_isLetter_13 : decode cX2_isLetter 13 = .ok (.goto 4, 3) := by decide +kernel
theorem dX2_isLetter_16 : decode cX2_isLetter 16 = .ok (.iconst 0, 1) := by decide +kernel
theorem dX2_isLetter_17 : decode cX2_isLetter 17 = .ok (.ireturn, 1) := by decide +kernel
theorem dX2_isDigit_0 : decode cX2_isDigit 0 = .ok (.iload_n 0, 1) := by decide +kernel
theorem dX2_isDigit_1 : decode cX2_isDigit 1 = .ok (.bipush 48, 2) := by decide +kernel
theorem dX2_isDigit_3 : decode cX2_isDigit 3 = .ok (.if_icmp .lt 13, 3) := by decide +kernel
theorem dX2_isDigit_6 : decode cX2_isDigit 6 = .ok (.iload_n 0, 1) := by decide +kernel
theorem dX2_isDigit_7 : decode cX2_isDigit 7 = .ok (.bipush 57, 2) := by decide +kernel
theorem dX2_isDigit_9 : decode cX2_isDigit 9 = .ok (.if_icmp .gt 7, 3) := by decide +kernel
theorem dX2_isDigit_12 : decode cX2_isDigit 12 = .ok (.iconst 1, 1) := by decide +kernel
theorem dX2_isDigit_13 : decode cX2_isDigit 13 = .ok (.goto 4, 3) := by decide +kernel
theorem dX2_isDigit_16 : decode cX2_isDigit 16 = .ok (.iconst 0, 1) := by decide +kernel
theorem dX2_isDigit_17 : decode cX2_isDigit 17 = .ok (.ireturn, 1) := by decide +kernel
theorem dX2_isSign_0 : decode cX2_isSign 0 = .ok (.iload_n 0, 1) := by decide +kernel
theorem dX2_isSign_1 : decode cX2_isSign 1 = .ok (.bipush 40, 2) := by decide +kernel
theorem dX2_isSign_3 : decode cX2_isSign 3 = .ok (.if_icmp .eq 45, 3) := by decide +kernel
theorem dX2_isSign_6 : decode cX2_isSign 6 = .ok (.iload_n 0, 1) := by decide +kernel
theorem dX2_isSign_7 : decode cX2_isSign 7 = .ok (.bipush 41, 2) := by decide +kernel
theorem dX2_isSign_9 : decode cX2_isSign 9 = .ok (.if_icmp .eq 39, 3) := by decide +kernel
theorem dX2_isSign_12 : decode cX2_isSign 12 = .ok (.iload_n 0, 1) := by decide +kernel
theorem dX2_isSign_13 : decode cX2_isSign 13 = .ok (.bipush 59, 2) := by decide +kernel
theorem dX2_isSign_15 : decode cX2_isSign 15 = .ok (.if_icmp .eq 33, 3) := by decide +kernel
theorem dX2_isSign_18 : decode cX2_isSign 18 = .ok (.iload_n 0, 1) := by decide +kernel
theorem dX2_isSign_19 : decode cX2_isSign 19 = .ok (.bipush 43, 2) := by decide +kernel
theorem dX2_isSign_21 : decode cX2_isSign 21 = .ok (.if_icmp .eq 27, 3) := by decide +kernel
theorem dX2_isSign_24 : decode cX2_isSign 24 = .ok (.iload_n 0, 1) := by decide +kernel
theorem dX2_isSign_25 : decode cX2_isSign 25 = .ok (.bipush 45, 2) := by decide +kernel
theorem dX2_isSign_27 : decode cX2_isSign 27 = .ok (.if_icmp .eq 21, 3) := by decide +kernel
theorem dX2_isSign_30 : decode cX2_isSign 30 = .ok (.iload_n 0, 1) := by decide +kernel
theorem dX2_isSign_31 : decode cX2_isSign 31 = .ok (.bipush 42, 2) := by decide +kernel
theorem dX2_isSign_33 : decode cX2_isSign 33 = .ok (.if_icmp .eq 15, 3) := by decide +kernel
theorem dX2_isSign_36 : decode cX2_isSign 36 = .ok (.iload_n 0, 1) := by decide +kernel
theorem dX2_isSign_37 : decode cX2_isSign 37 = .ok (.bipush 60, 2) := by decide +kernel
theorem dX2_isSign_39 : decode cX2_isSign 39 = .ok (.if_icmp .eq 9, 3) := by decide +kernel
theorem dX2_isSign_42 : decode cX2_isSign 42 = .ok (.iload_n 0, 1) := by decide +kernel
theorem dX2_isSign_43 : decode cX2_isSign 43 = .ok (.bipush 61, 2) := by decide +kernel
theorem dX2_isSign_45 : decode cX2_isSign 45 = .ok (.if_icmp .ne 7, 3) := by decide +kernel
theorem dX2_isSign_48 : decode cX2_isSign 48 = .ok (.iconst 1, 1) := by decide +kernel
theorem dX2_isSign_49 : decode cX2_isSign 49 = .ok (.goto 4, 3) := by decide +kernel
theorem dX2_isSign_52 : decode cX2_isSign 52 = .ok (.iconst 0, 1) := by decide +kernel
theorem dX2_isSign_53 : decode cX2_isSign 53 = .ok (.ireturn, 1) := by decide +kernel
theorem dX3_init_0 : decode cX3_init 0 = .ok (.aload_n 0, 1) := by decide +kernel
theorem dX3_init_1 : decode cX3_init 1 = .ok (.invokespecial 3, 3) := by decide +kernel
theorem dX3_init_4 : decode cX3_init 4 = .ok (.aload_n 0, 1) := by decide +kernel
theorem dX3_init_5 : decode cX3_init 5 = .ok (.bipush 40, 2) := by decide +kernel
theorem dX3_init_7 : decode cX3_init 7 = .ok (.newarray .int, 2) := by decide +kernel
theorem dX3_init_9 : decode cX3_init 9 = .ok (.putfield 9, 3) := by decide +kernel
theorem dX3_init_12 : decode cX3_init 12 = .ok (.aload_n 0, 1) := by decide +kernel
theorem dX3_init_13 : decode cX3_init 13 = .ok (.iconst (-1), 1) := by decide +kernel
theorem dX3_init_14 : decode cX3_init 14 = .ok (.putfield 15, 3) := by decide +kernel
theorem dX3_init_17 : decode cX3_init 17 = .ok (.return_, 1) := by decide +kernel
set_option maxRecDepth 20000 in
theorem dX3_become_0 : decode cX3_become 0 = .ok (.aload_n 0, 1) := by decide +kernel
theorem dX3_become_1 : decode cX3_become 1 = .ok (.iload_n 1, 1) := by decide +kernel
theorem dX3_become_2 : decode cX3_become 2 = .ok (.putfield 15, 3) := by decide +kernel
theorem dX3_become_5 : decode cX3_become 5 = .ok (.aload_n 0, 1) := by decide +kernel
theorem dX3_become_6 : decode cX3_become 6 = .ok (.iload_n 2, 1) := by decide +kernel
theorem dX3_become_7 : decode cX3_become 7 = .ok (.putfield 19, 3) := by decide +kernel
theorem dX3_become_10 : decode cX3_become 10 = .ok (.aload_n 0, 1) := by decide +kernel
theorem dX3_become_11 : decode cX3_become 11 = .ok (.getfield 9, 3) := by decide +kernel
theorem dX3_become_14 : decode cX3_become 14 = .ok (.iconst 0, 1) := by decide +kernel
theorem dX3_become_15 : decode cX3_become 15 = .ok (.invokestatic 22, 3) := by decide +kernel
theorem dX3_become_18 : decode cX3_become 18 = .ok (.return_, 1) := by decide +kernel
theorem dX3_has_0 : decode cX3_has 0 = .ok (.iload_n 1, 1) := by decide +kernel
theorem dX3_has_1 : decode cX3_has 1 = .ok (.ifCond .lt 21, 3) := by decide +kernel
theorem dX3_has_4 : decode cX3_has 4 = .ok (.iload_n 2, 1) := by decide +kernel
theorem dX3_has_5 : decode cX3_has 5 = .ok (.ifCond .lt 17, 3) := by decide +kernel
theorem dX3_has_8 : decode cX3_has 8 = .ok (.iload_n 2, 1) := by decide +kernel
theorem dX3_has_9 : decode cX3_has 9 = .ok (.aload_n 0, 1) := by decide +kernel
theorem dX3_has_10 : decode cX3_has 10 = .ok (.getfield 19, 3) := by decide +kernel
theorem dX3_has_13 : decode cX3_has 13 = .ok (.iload_n 1, 1) := by decide +kernel
theorem dX3_has_14 : decode cX3_has 14 = .ok (.isub, 1) := by decide +kernel
theorem dX3_has_15 : decode cX3_has 15 = .ok (.if_icmp .gt 7, 3) := by decide +kernel
theorem dX3_has_18 : decode cX3_has 18 = .ok (.iconst 1, 1) := by decide +kernel
theorem dX3_has_19 : decode cX3_has 19 = .ok (.goto 4, 3) := by decide +kernel
theorem dX3_has_22 : decode cX3_has 22 = .ok (.iconst 0, 1) := by decide +kernel
theorem dX3_has_23 : decode cX3_has 23 = .ok (.ireturn, 1) := by decide +kernel
set_option maxRecDepth 20000 in
theorem dX3_put_0 : decode cX3_put 0 = .ok (.aload_n 0, 1) := by decide +kernel
theorem dX3_put_1 : decode cX3_put 1 = .ok (.iload_n 1, 1) := by decide +kernel
theorem dX3_put_2 : decode cX3_put 2 = .ok (.iconst 1, 1) := by decide +kernel
theorem dX3_put_3 : decode cX3_put 3 = .ok (.invokevirtual 28, 3) := by decide +kernel
theorem dX3_put_6 : decode cX3_put 6 = .ok (.ifCond .ne 5, 3) := by decide +kernel
theorem dX3_put_9 : decode cX3_put 9 = .ok (.iconst 0, 1) := by decide +kernel
theorem dX3_put_10 : decode cX3_put 10 = .ok (.ireturn, 1) := by decide +kernel
theorem dX3_put_11 : decode cX3_put 11 = .ok (.aload_n 0, 1) := by decide +kernel
theorem dX3_put_12 : decode cX3_put 12 = .ok (.getfield 9, 3) := by decide +kernel
theorem dX3_put_15 : decode cX3_put 15 = .ok (.iload_n 1, 1) := by decide +kernel
theorem dX3_put_16 : decode cX3_put 16 = .ok (.aload_n 0, 1) := by decide +kernel
theorem dX3_put_17 : decode cX3_put 17 = .ok (.getfield 15, 3) := by decide +kernel
theorem dX3_put_20 : decode cX3_put 20 = .ok (.ifCond .ne 8, 3) := by decide +kernel
theorem dX3_put_23 : decode cX3_put 23 = .ok (.iload_n 2, 1) := by decide +kernel
theorem dX3_put_24 : decode cX3_put 24 = .ok (.i2b, 1) := by decide +kernel
theorem dX3_put_25 : decode cX3_put 25 = .ok (.goto 17, 3) := by decide +kernel
theorem dX3_put_28 : decode cX3_put 28 = .ok (.aload_n 0, 1) := by decide +kernel
theorem dX3_put_29 : decode cX3_put 29 = .ok (.getfield 15, 3) := by decide +kernel
theorem dX3_put_32 : decode cX3_put 32 = .ok (.iconst 1, 1) := by decide +kernel
theorem dX3_put_33 : decode cX3_put 33 = .ok (.if_icmp .ne 8, 3) := by decide +kernel
theorem dX3_put_36 : decode cX3_put 36 = .ok (.iload_n 2, 1) := by decide +kernel
theorem dX3_put_37 : decode cX3_put 37 = .ok (.i2s, 1) := by decide +kernel
theorem dX3_put_38 : decode cX3_put 38 = .ok (.goto 4, 3) := by decide +kernel
theorem dX3_put_41 : decode cX3_put 41 = .ok (.iload_n 2, 1) := by decide +kernel
theorem dX3_put_42 : decode cX3_put 42 = .ok (.iastore, 1) := by decide +kernel
theorem dX3_put_43 : decode cX3_put 43 = .ok (.iconst 1, 1) := by decide +kernel
theorem dX3_put_44 : decode cX3_put 44 = .ok (.ireturn, 1) := by decide +kernel
theorem dX4_init_0 : decode cX4_init 0 = .ok (.aload_n 0, 1) := by decide +kernel
theorem dX4_init_1 : decode cX4_init 1 = .ok (.invokespecial 3, 3) := by decide +kernel
theorem dX4_init_4 : decode cX4_init 4 = .ok (.aload_n 0, 1) := by decide +kernel
theorem dX4_init_5 : decode cX4_init 5 = .ok (.aload_n 1, 1) := by decide +kernel
theorem dX4_init_6 : decode cX4_init 6 = .ok (.putfield 9, 3) := by decide +kernel
theorem dX4_init_9 : decode cX4_init 9 = .ok (.aload_n 0, 1) := by decide +kernel
theorem dX4_init_10 : decode cX4_init 10 = .ok (.iload_n 2, 1) := by decide +kernel
end
section
theorem dX4_init_11 : decode cX4_init 11 = .ok (.putfield 15, 3) := by decide +kernel
theorem dX4_init_14 : decode cX4_init 14 = .ok (.aload_n 0, 1) := by decide +kernel
theorem dX4_init_15 : decode cX4_init 15 = .ok (.iload_n 3, 1) := by decide +kernel
theorem dX4_init_16 : decode cX4_init 16 = .ok (.putfield 19, 3) := by decide +kernel
theorem dX4_init_19 : decode cX4_init 19 = .ok (.return_, 1) := by decide +kernel
theorem dX4_start_0 : decode cX4_start 0 = .ok (.iload_n 1, 1) := by decide +kernel
theorem dX4_start_1 : decode cX4_start 1 = .ok (.ifCond .ne 7, 3) := by decide +kernel
theorem dX4_start_4 : decode cX4_start 4 = .ok (.iconst 0, 1) := by decide +kernel
theorem dX4_start_5 : decode cX4_start 5 = .ok (.goto 19, 3) := by decide +kernel
theorem dX4_start_8 : decode cX4_start 8 = .ok (.iload_n 1, 1) := by decide +kernel
theorem dX4_start_9 : decode cX4_start 9 = .ok (.iconst 1, 1) := by decide +kernel
theorem dX4_start_10 : decode cX4_start 10 = .ok (.if_icmp .ne 10, 3) := by decide +kernel
theorem dX4_start_13 : decode cX4_start 13 = .ok (.aload_n 0, 1) := by decide +kernel
theorem dX4_start_14 : decode cX4_start 14 = .ok (.getfield 15, 3) := by decide +kernel
theorem dX4_start_17 : decode cX4_start 17 = .ok (.goto 7, 3) := by decide +kernel
theorem dX4_start_20 : decode cX4_start 20 = .ok (.aload_n 0, 1) := by decide +kernel
theorem dX4_start_21 : decode cX4_start 21 = .ok (.getfield 19, 3) := by decide +kernel
theorem dX4_start_24 : decode cX4_start 24 = .ok (.ireturn, 1) := by decide +kernel
theorem dX4_end_0 : decode cX4_end 0 = .ok (.iload_n 1, 1) := by decide +kernel
theorem dX4_end_1 : decode cX4_end 1 = .ok (.ifCond .ne 10, 3) := by decide +kernel
theorem dX4_end_4 : decode cX4_end 4 = .ok (.aload_n 0, 1) := by decide +kernel
theorem dX4_end_5 : decode cX4_end 5 = .ok (.getfield 15, 3) := by decide +kernel
theorem dX4_end_8 : decode cX4_end 8 = .ok (.goto 20, 3) := by decide +kernel
theorem dX4_end_11 : decode cX4_end 11 = .ok (.iload_n 1, 1) := by decide +kernel
theorem dX4_end_12 : decode cX4_end 12 = .ok (.iconst 1, 1) := by decide +kernel
theorem dX4_end_13 : decode cX4_end 13 = .ok (.if_icmp .ne 10, 3) := by decide +kernel
theorem dX4_end_16 : decode cX4_end 16 = .ok (.aload_n 0, 1) := by decide +kernel
theorem dX4_end_17 : decode cX4_end 17 = .ok (.getfield 19, 3) := by decide +kernel
theorem dX4_end_20 : decode cX4_end 20 = .ok (.goto 8, 3) := by decide +kernel
theorem dX4_end_23 : decode cX4_end 23 = .ok (.aload_n 0, 1) := by decide +kernel
theorem dX4_end_24 : decode cX4_end 24 = .ok (.getfield 9, 3) := by decide +kernel
theorem dX4_end_27 : decode cX4_end 27 = .ok (.arraylength, 1) := by decide +kernel
theorem dX4_end_28 : decode cX4_end 28 = .ok (.ireturn, 1) := by decide +kernel
set_option maxRecDepth 20000 in
theorem dX5_init_0 : decode cX5_init 0 = .ok (.aload_n 0, 1) := by decide +kernel
theorem dX5_init_1 : decode cX5_init 1 = .ok (.invokespecial 1, 3) := by decide +kernel
theorem dX5_init_4 : decode cX5_init 4 = .ok (.aload_n 0, 1) := by decide +kernel
theorem dX5_init_5 : decode cX5_init 5 = .ok (.new 7, 3) := by decide +kernel
theorem dX5_init_8 : decode cX5_init 8 = .ok (.dup, 1) := by decide +kernel
theorem dX5_init_9 : decode cX5_init 9 = .ok (.invokespecial 9, 3) := by decide +kernel
theorem dX5_init_12 : decode cX5_init 12 = .ok (.putfield 10, 3) := by decide +kernel
theorem dX5_init_15 : decode cX5_init 15 = .ok (.aload_n 0, 1) := by decide +kernel
theorem dX5_init_16 : decode cX5_init 16 = .ok (.new 7, 3) := by decide +kernel
theorem dX5_init_19 : decode cX5_init 19 = .ok (.dup, 1) := by decide +kernel
theorem dX5_init_20 : decode cX5_init 20 = .ok (.invokespecial 9, 3) := by decide +kernel
theorem dX5_init_23 : decode cX5_init 23 = .ok (.putfield 16, 3) := by decide +kernel
theorem dX5_init_26 : decode cX5_init 26 = .ok (.aload_n 0, 1) := by decide +kernel
theorem dX5_init_27 : decode cX5_init 27 = .ok (.new 7, 3) := by decide +kernel
theorem dX5_init_30 : decode cX5_init 30 = .ok (.dup, 1) := by decide +kernel
theorem dX5_init_31 : decode cX5_init 31 = .ok (.invokespecial 9, 3) := by decide +kernel
theorem dX5_init_34 : decode cX5_init 34 = .ok (.putfield 19, 3) := by decide +kernel
theorem dX5_init_37 : decode cX5_init 37 = .ok (.aload_n 0, 1) := by decide +kernel
theorem dX5_init_38 : decode cX5_init 38 = .ok (.new 7, 3) := by decide +kernel
theorem dX5_init_41 : decode cX5_init 41 = .ok (.dup, 1) := by decide +kernel
theorem dX5_init_42 : decode cX5_init 42 = .ok (.invokespecial 9, 3) := by decide +kernel
theorem dX5_init_45 : decode cX5_init 45 = .ok (.putfield 22, 3) := by decide +kernel
theorem dX5_init_48 : decode cX5_init 48 = .ok (.aload_n 0, 1) := by decide +kernel
theorem dX5_init_49 : decode cX5_init 49 = .ok (.new 25, 3) := by decide +kernel
theorem dX5_init_52 : decode cX5_init 52 = .ok (.dup, 1) := by decide +kernel
theorem dX5_init_53 : decode cX5_init 53 = .ok (.invokespecial 27, 3) := by decide +kernel
theorem dX5_init_56 : decode cX5_init 56 = .ok (.putfield 28, 3) := by decide +kernel
theorem dX5_init_59 : decode cX5_init 59 = .ok (.aload_n 0, 1) := by decide +kernel
theorem dX5_init_60 : decode cX5_init 60 = .ok (.new 32, 3) := by decide +kernel
theorem dX5_init_63 : decode cX5_init 63 = .ok (.dup, 1) := by decide +kernel
theorem dX5_init_64 : decode cX5_init 64 = .ok (.invokespecial 34, 3) := by decide +kernel
theorem dX5_init_67 : decode cX5_init 67 = .ok (.putfield 35, 3) := by decide +kernel
theorem dX5_init_70 : decode cX5_init 70 = .ok (.aload_n 0, 1) := by decide +kernel
theorem dX5_init_71 : decode cX5_init 71 = .ok (.iconst 4, 1) := by decide +kernel
theorem dX5_init_72 : decode cX5_init 72 = .ok (.anewarray 39, 3) := by decide +kernel
theorem dX5_init_75 : decode cX5_init 75 = .ok (.putfield 41, 3) := by decide +kernel
theorem dX5_init_78 : decode cX5_init 78 = .ok (.iconst 0, 1) := by decide +kernel
theorem dX5_init_79 : decode cX5_init 79 = .ok (.istore_n 1, 1) := by decide +kernel
theorem dX5_init_80 : decode cX5_init 80 = .ok (.iload_n 1, 1) := by decide +kernel
theorem dX5_init_81 : decode cX5_init 81 = .ok (.iconst 4, 1) := by decide +kernel
theorem dX5_init_82 : decode cX5_init 82 = .ok (.if_icmp .ge 22, 3) := by decide +kernel
theorem dX5_init_85 : decode cX5_init 85 = .ok (.aload_n 0, 1) := by decide +kernel
theorem dX5_init_86 : decode cX5_init 86 = .ok (.getfield 41, 3) := by decide +kernel
theorem dX5_init_89 : decode cX5_init 89 = .ok (.iload_n 1, 1) := by decide +kernel
theorem dX5_init_90 : decode cX5_init 90 = .ok (.new 39, 3) := by decide +kernel
theorem dX5_init_93 : decode cX5_init 93 = .ok (.dup, 1) := by decide +kernel
theorem dX5_init_94 : decode cX5_init 94 = .ok (.invokespecial 45, 3) := by decide +kernel
theorem dX5_init_97 : decode cX5_init 97 = .ok (.aastore, 1) := by decide +kernel
theorem dX5_init_98 : decode cX5_init 98 = .ok (.iinc 1 1, 3) := by decide +kernel
theorem dX5_init_101 : decode cX5_init 101 = .ok (.goto (-21), 3) := by decide +kernel
theorem dX5_init_104 : decode cX5_init 104 = .ok (.iconst 0, 1) := by decide +kernel
theorem dX5_init_105 : decode cX5_init 105 = .ok (.istore_n 1, 1) := by decide +kernel
theorem dX5_init_106 : decode cX5_init 106 = .ok (.iload_n 1, 1) := by decide +kernel
theorem dX5_init_107 : decode cX5_init 107 = .ok (.ldc 46, 2) := by decide +kernel
theorem dX5_init_109 : decode cX5_init 109 = .ok (.invokevirtual 48, 3) := by decide +kernel
theorem dX5_init_112 : decode cX5_init 112 = .ok (.if_icmp .ge 23, 3) := by decide +kernel
theorem dX5_init_115 : decode cX5_init 115 = .ok (.aload_n 0, 1) := by decide +kernel
theorem dX5_init_116 : decode cX5_init 116 = .ok (.getfield 35, 3) := by decide +kernel
theorem dX5_init_119 : decode cX5_init 119 = .ok (.ldc 46, 2) := by decide +kernel
theorem dX5_init_121 : decode cX5_init 121 = .ok (.iload_n 1, 1) := by decide +kernel
theorem dX5_init_122 : decode cX5_init 122 = .ok (.invokevirtual 54, 3) := by decide +kernel
theorem dX5_init_125 : decode cX5_init 125 = .ok (.invokevirtual 58, 3) := by decide +kernel
theorem dX5_init_128 : decode cX5_init 128 = .ok (.pop, 1) := by decide +kernel
theorem dX5_init_129 : decode cX5_init 129 = .ok (.iinc 1 1, 3) := by decide +kernel
theorem dX5_init_132 : decode cX5_init 132 = .ok (.goto (-26), 3) := by decide +kernel
theorem dX5_init_135 : decode cX5_init 135 = .ok (.aload_n 0, 1) := by decide +kernel
theorem dX5_init_136 : decode cX5_init 136 = .ok (.getfield 28, 3) := by decide +kernel
theorem dX5_init_139 : decode cX5_init 139 = .ok (.aload_n 0, 1) := by decide +kernel
theorem dX5_init_140 : decode cX5_init 140 = .ok (.getfield 35, 3) := by decide +kernel
theorem dX5_init_143 : decode cX5_init 143 = .ok (.invokevirtual 62, 3) := by decide +kernel
theorem dX5_init_146 : decode cX5_init 146 = .ok (.invokevirtual 66, 3) := by decide +kernel
theorem dX5_init_149 : decode cX5_init 149 = .ok (.pop, 1) := by decide +kernel
theorem dX5_init_150 : decode cX5_init 150 = .ok (.aload_n 0, 1) := by decide +kernel
theorem dX5_init_151 : decode cX5_init 151 = .ok (.getfield 35, 3) := by decide +kernel
theorem dX5_init_154 : decode cX5_init 154 = .ok (.invokevirtual 70, 3) := by decide +kernel
theorem dX5_init_157 : decode cX5_init 157 = .ok (.return_, 1) := by decide +kernel
set_option maxRecDepth 20000 in
theorem dX5_set_0 : decode cX5_set 0 = .ok (.aload_n 0, 1) := by decide +kernel
theorem dX5_set_1 : decode cX5_set 1 = .ok (.iload_n 1, 1) := by decide +kernel
theorem dX5_set_2 : decode cX5_set 2 = .ok (.iload_n 2, 1) := by decide +kernel
theorem dX5_set_3 : decode cX5_set 3 = .ok (.iload_n 3, 1) := by decide +kernel
theorem dX5_set_4 : decode cX5_set 4 = .ok (.invokevirtual 73, 3) := by decide +kernel
theorem dX5_set_7 : decode cX5_set 7 = .ok (.ifCond .ne 6, 3) := by decide +kernel
theorem dX5_set_10 : decode cX5_set 10 = .ok (.bipush (-2), 2) := by decide +kernel
theorem dX5_set_12 : decode cX5_set 12 = .ok (.ireturn, 1) := by decide +kernel
theorem dX5_set_13 : decode cX5_set 13 = .ok (.aload_n 0, 1) := by decide +kernel
theorem dX5_set_14 : decode cX5_set 14 = .ok (.iload_n 2, 1) := by decide +kernel
theorem dX5_set_15 : decode cX5_set 15 = .ok (.iload_n 1, 1) := by decide +kernel
theorem dX5_set_16 : decode cX5_set 16 = .ok (.invokevirtual 77, 3) := by decide +kernel
theorem dX5_set_19 : decode cX5_set 19 = .ok (.istore 4, 2) := by decide +kernel
theorem dX5_set_21 : decode cX5_set 21 = .ok (.lconst 1, 1) := by decide +kernel
theorem dX5_set_22 : decode cX5_set 22 = .ok (.iload_n 2, 1) := by decide +kernel
theorem dX5_set_23 : decode cX5_set 23 = .ok (.lshl, 1) := by decide +kernel
theorem dX5_set_24 : decode cX5_set 24 = .ok (.lstore 5, 2) := by decide +kernel
theorem dX5_set_26 : decode cX5_set 26 = .ok (.iload_n 1, 1) := by decide +kernel
theorem dX5_set_27 : decode cX5_set 27 = .ok (.tableswitch 154 0 4 #[33, 44, 86, 128, 141], 33) := by decide +kernel
theorem dX5_set_60 : decode cX5_set 60 = .ok (.aload_n 0, 1) := by decide +kernel
theorem dX5_set_61 : decode cX5_set 61 = .ok (.getfield 10, 3) := by decide +kernel
theorem dX5_set_64 : decode cX5_set 64 = .ok (.iload_n 3, 1) := by decide +kernel
theorem dX5_set_65 : decode cX5_set 65 = .ok (.putfield 81, 3) := by decide +kernel
theorem dX5_set_68 : decode cX5_set 68 = .ok (.goto 123, 3) := by decide +kernel
theorem dX5_set_71 : decode cX5_set 71 = .ok (.aload_n 0, 1) := by decide +kernel
theorem dX5_set_72 : decode cX5_set 72 = .ok (.getfield 10, 3) := by decide +kernel
theorem dX5_set_75 : decode cX5_set 75 = .ok (.iload_n 3, 1) := by decide +kernel
theorem dX5_set_76 : decode cX5_set 76 = .ok (.iconst 1, 1) := by decide +kernel
theorem dX5_set_77 : decode cX5_set 77 = .ok (.if_icmp .ne 16, 3) := by decide +kernel
theorem dX5_set_80 : decode cX5_set 80 = .ok (.aload_n 0, 1) := by decide +kernel
theorem dX5_set_81 : decode cX5_set 81 = .ok (.getfield 10, 3) := by decide +kernel
theorem dX5_set_84 : decode cX5_set 84 = .ok (.getfield 85, 3) := by decide +kernel
theorem dX5_set_87 : decode cX5_set 87 = .ok (.lload 5, 2) := by decide +kernel
theorem dX5_set_89 : decode cX5_set 89 = .ok (.lor, 1) := by decide +kernel
theorem dX5_set_90 : decode cX5_set 90 = .ok (.goto 17, 3) := by decide +kernel
theorem dX5_set_93 : decode cX5_set 93 = .ok (.aload_n 0, 1) := by decide +kernel
theorem dX5_set_94 : decode cX5_set 94 = .ok (.getfield 10, 3) := by decide +kernel
theorem dX5_set_97 : decode cX5_set 97 = .ok (.getfield 85, 3) := by decide +kernel
theorem dX5_set_100 : decode cX5_set 100 = .ok (.lload 5, 2) := by decide +kernel
theorem dX5_set_102 : decode cX5_set 102 = .ok (.ldc2_w 89, 3) := by decide +kernel
theorem dX5_set_105 : decode cX5_set 105 = .ok (.lxor, 1) := by decide +kernel
theorem dX5_set_106 : decode cX5_set 106 = .ok (.land, 1) := by decide +kernel
theorem dX5_set_107 : decode cX5_set 107 = .ok (.putfield 85, 3) := by decide +kernel
theorem dX5_set_110 : decode cX5_set 110 = .ok (.goto 81, 3) := by decide +kernel
theorem dX5_set_113 : decode cX5_set 113 = .ok (.aload_n 0, 1) := by decide +kernel
theorem dX5_set_114 : decode cX5_set 114 = .ok (.getfield 10, 3) := by decide +kernel
theorem dX5_set_117 : decode cX5_set 117 = .ok (.iload_n 3, 1) := by decide +kernel
theorem dX5_set_118 : decode cX5_set 118 = .ok (.iconst 1, 1) := by decide +kernel
theorem dX5_set_119 : decode cX5_set 119 = .ok (.if_icmp .ne 16, 3) := by decide +kernel
theorem dX5_set_122 : decode cX5_set 122 = .ok (.aload_n 0, 1) := by decide +kernel
theorem dX5_set_123 : decode cX5_set 123 = .ok (.getfield 10, 3) := by decide +kernel
theorem dX5_set_126 : decode cX5_set 126 = .ok (.getfield 91, 3) := by decide +kernel
theorem dX5_set_129 : decode cX5_set 129 = .ok (.lload 5, 2) := by decide +kernel
theorem dX5_set_131 : decode cX5_set 131 = .ok (.lor, 1) := by decide +kernel
theorem dX5_set_132 : decode cX5_set 132 = .ok (.goto 17, 3) := by decide +kernel
theorem dX5_set_135 : decode cX5_set 135 = .ok (.aload_n 0, 1) := by decide +kernel
theorem dX5_set_136 : decode cX5_set 136 = .ok (.getfield 10, 3) := by decide +kernel
theorem dX5_set_139 : decode cX5_set 139 = .ok (.getfield 91, 3) := by decide +kernel
theorem dX5_set_142 : decode cX5_set 142 = .ok (.lload 5, 2) := by decide +kernel
theorem dX5_set_144 : decode cX5_set 144 = .ok (.ldc2_w 89, 3) := by decide +kernel
theorem dX5_set_147 : decode cX5_set 147 = .ok (.lxor, 1) := by decide +kernel
theorem dX5_set_148 : decode cX5_set 148 = .ok (.land, 1) := by decide +kernel
theorem dX5_set_149 : decode cX5_set 149 = .ok (.putfield 91, 3) := by decide +kernel
theorem dX5_set_152 : decode cX5_set 152 = .ok (.goto 39, 3) := by decide +kernel
theorem dX5_set_155 : decode cX5_set 155 = .ok (.aload_n 0, 1) := by decide +kernel
theorem dX5_set_156 : decode cX5_set 156 = .ok (.getfield 10, 3) := by decide +kernel
theorem dX5_set_159 : decode cX5_set 159 = .ok (.getfield 94, 3) := by decide +kernel
theorem dX5_set_162 : decode cX5_set 162 = .ok (.iload_n 2, 1) := by decide +kernel
theorem dX5_set_163 : decode cX5_set 163 = .ok (.iload_n 3, 1) := by decide +kernel
theorem dX5_set_164 : decode cX5_set 164 = .ok (.iastore, 1) := by decide +kernel
theorem dX5_set_165 : decode cX5_set 165 = .ok (.goto 26, 3) := by decide +kernel
theorem dX5_set_168 : decode cX5_set 168 = .ok (.aload_n 0, 1) := by decide +kernel
theorem dX5_set_169 : decode cX5_set 169 = .ok (.getfield 10, 3) := by decide +kernel
theorem dX5_set_172 : decode cX5_set 172 = .ok (.getfield 98, 3) := by decide +kernel
theorem dX5_set_175 : decode cX5_set 175 = .ok (.iload_n 2, 1) := by decide +kernel
theorem dX5_set_176 : decode cX5_set 176 = .ok (.iload_n 3, 1) := by decide +kernel
theorem dX5_set_177 : decode cX5_set 177 = .ok (.iastore, 1) := by decide +kernel
theorem dX5_set_178 : decode cX5_set 178 = .ok (.goto 13, 3) := by decide +kernel
theorem dX5_set_181 : decode cX5_set 181 = .ok (.aload_n 0, 1) := by decide +kernel
theorem dX5_set_182 : decode cX5_set 182 = .ok (.getfield 10, 3) := by decide +kernel
theorem dX5_set_185 : decode cX5_set 185 = .ok (.getfield 101, 3) := by decide +kernel
theorem dX5_set_188 : decode cX5_set 188 = .ok (.iload_n 2, 1) := by decide +kernel
theorem dX5_set_189 : decode cX5_set 189 = .ok (.iload_n 3, 1) := by decide +kernel
theorem dX5_set_190 : decode cX5_set 190 = .ok (.iastore, 1) := by decide +kernel
theorem dX5_set_191 : decode cX5_set 191 = .ok (.iload 4, 2) := by decide +kernel
theorem dX5_set_193 : decode cX5_set 193 = .ok (.ireturn, 1) := by decide +kernel
set_option maxRecDepth 20000 in
theorem dX5_canSet_0 : decode cX5_canSet 0 = .ok (.iload_n 1, 1) := by decide +kernel
theorem dX5_canSet_1 : decode cX5_canSet 1 = .ok (.tableswitch 178 0 5 #[39, 47, 68, 100, 123, 155], 39) := by decide +kernel
theorem dX5_canSet_40 : decode cX5_canSet 40 = .ok (.iload_n 3, 1) := by decide +kernel
theorem dX5_canSet_41 : decode cX5_canSet 41 = .ok (.sipush 999, 3) := by decide +kernel
theorem dX5_canSet_44 : decode cX5_canSet 44 = .ok (.invokestatic 104, 3) := by decide +kernel
theorem dX5_canSet_47 : decode cX5_canSet 47 = .ok (.ireturn, 1) := by decide +kernel
theorem dX5_canSet_48 : decode cX5_canSet 48 = .ok (.iload_n 2, 1) := by decide +kernel
theorem dX5_canSet_49 : decode cX5_canSet 49 = .ok (.invokestatic 108, 3) := by decide +kernel
theorem dX5_canSet_52 : decode cX5_canSet 52 = .ok (.ifCond .eq 15, 3) := by decide +kernel
theorem dX5_canSet_55 : decode cX5_canSet 55 = .ok (.iload_n 3, 1) := by decide +kernel
theorem dX5_canSet_56 : decode cX5_canSet 56 = .ok (.iconst 1, 1) := by decide +kernel
theorem dX5_canSet_57 : decode cX5_canSet 57 = .ok (.invokestatic 104, 3) := by decide +kernel
theorem dX5_canSet_60 : decode cX5_canSet 60 = .ok (.ifCond .eq 7, 3) := by decide +kernel
theorem dX5_canSet_63 : decode cX5_canSet 63 = .ok (.iconst 1, 1) := by decide +kernel
theorem dX5_canSet_64 : decode cX5_canSet 64 = .ok (.goto 4, 3) := by decide +kernel
theorem dX5_canSet_67 : decode cX5_canSet 67 = .ok (.iconst 0, 1) := by decide +kernel
theorem dX5_canSet_68 : decode cX5_canSet 68 = .ok (.ireturn, 1) := by decide +kernel
theorem dX5_canSet_69 : decode cX5_canSet 69 = .ok (.iload_n 2, 1) := by decide +kernel
theorem dX5_canSet_70 : decode cX5_canSet 70 = .ok (.invokestatic 108, 3) := by decide +kernel
theorem dX5_canSet_73 : decode cX5_canSet 73 = .ok (.ifCond .eq 26, 3) := by decide +kernel
theorem dX5_canSet_76 : decode cX5_canSet 76 = .ok (.iload_n 3, 1) := by decide +kernel
theorem dX5_canSet_77 : decode cX5_canSet 77 = .ok (.iconst 1, 1) := by decide +kernel
theorem dX5_canSet_78 : decode cX5_canSet 78 = .ok (.invokestatic 104, 3) := by decide +kernel
theorem dX5_canSet_81 : decode cX5_canSet 81 = .ok (.ifCond .eq 18, 3) := by decide +kernel
theorem dX5_canSet_84 : decode cX5_canSet 84 = .ok (.aload_n 0, 1) := by decide +kernel
theorem dX5_canSet_85 : decode cX5_canSet 85 = .ok (.getfield 10, 3) := by decide +kernel
theorem dX5_canSet_88 : decode cX5_canSet 88 = .ok (.iload_n 2, 1) := by decide +kernel
theorem dX5_canSet_89 : decode cX5_canSet 89 = .ok (.invokevirtual 111, 3) := by decide +kernel
theorem dX5_canSet_92 : decode cX5_canSet 92 = .ok (.ifCond .ne 7, 3) := by decide +kernel
theorem dX5_canSet_95 : decode cX5_canSet 95 = .ok (.iconst 1, 1) := by decide +kernel
theorem dX5_canSet_96 : decode cX5_canSet 96 = .ok (.goto 4, 3) := by decide +kernel
theorem dX5_canSet_99 : decode cX5_canSet 99 = .ok (.iconst 0, 1) := by decide +kernel
theorem dX5_canSet_100 : decode cX5_canSet 100 = .ok (.ireturn, 1) := by decide +kernel
theorem dX5_canSet_101 : decode cX5_canSet 101 = .ok (.aload_n 0, 1) := by decide +kernel
theorem dX5_canSet_102 : decode cX5_canSet 102 = .ok (.iload_n 2, 1) := by decide +kernel
theorem dX5_canSet_103 : decode cX5_canSet 103 = .ok (.invokevirtual 115, 3) := by decide +kernel
theorem dX5_canSet_106 : decode cX5_canSet 106 = .ok (.ifCond .eq 16, 3) := by decide +kernel
theorem dX5_canSet_109 : decode cX5_canSet 109 = .ok (.iload_n 3, 1) := by decide +kernel
theorem dX5_canSet_110 : decode cX5_canSet 110 = .ok (.bipush 9, 2) := by decide +kernel
theorem dX5_canSet_112 : decode cX5_canSet 112 = .ok (.invokestatic 104, 3) := by decide +kernel
theorem dX5_canSet_115 : decode cX5_canSet 115 = .ok (.ifCond .eq 7, 3) := by decide +kernel
theorem dX5_canSet_118 : decode cX5_canSet 118 = .ok (.iconst 1, 1) := by decide +kernel
theorem dX5_canSet_119 : decode cX5_canSet 119 = .ok (.goto 4, 3) := by decide +kernel
theorem dX5_canSet_122 : decode cX5_canSet 122 = .ok (.iconst 0, 1) := by decide +kernel
theorem dX5_canSet_123 : decode cX5_canSet 123 = .ok (.ireturn, 1) := by decide +kernel
theorem dX5_canSet_124 : decode cX5_canSet 124 = .ok (.aload_n 0, 1) := by decide +kernel
theorem dX5_canSet_125 : decode cX5_canSet 125 = .ok (.iload_n 2, 1) := by decide +kernel
theorem dX5_canSet_126 : decode cX5_canSet 126 = .ok (.invokevirtual 115, 3) := by decide +kernel
theorem dX5_canSet_129 : decode cX5_canSet 129 = .ok (.ifCond .eq 25, 3) := by decide +kernel
theorem dX5_canSet_132 : decode cX5_canSet 132 = .ok (.iload_n 3, 1) := by decide +kernel
theorem dX5_canSet_133 : decode cX5_canSet 133 = .ok (.invokestatic 108, 3) := by decide +kernel
theorem dX5_canSet_136 : decode cX5_canSet 136 = .ok (.ifCond .eq 18, 3) := by decide +kernel
theorem dX5_canSet_139 : decode cX5_canSet 139 = .ok (.aload_n 0, 1) := by decide +kernel
theorem dX5_canSet_140 : decode cX5_canSet 140 = .ok (.getfield 10, 3) := by decide +kernel
theorem dX5_canSet_143 : decode cX5_canSet 143 = .ok (.iload_n 3, 1) := by decide +kernel
theorem dX5_canSet_144 : decode cX5_canSet 144 = .ok (.invokevirtual 118, 3) := by decide +kernel
theorem dX5_canSet_147 : decode cX5_canSet 147 = .ok (.ifCond .ne 7, 3) := by decide +kernel
theorem dX5_canSet_150 : decode cX5_canSet 150 = .ok (.iconst 1, 1) := by decide +kernel
theorem dX5_canSet_151 : decode cX5_canSet 151 = .ok (.goto 4, 3) := by decide +kernel
theorem dX5_canSet_154 : decode cX5_canSet 154 = .ok (.iconst 0, 1) := by decide +kernel
theorem dX5_canSet_155 : decode cX5_canSet 155 = .ok (.ireturn, 1) := by decide +kernel
theorem dX5_canSet_156 : decode cX5_canSet 156 = .ok (.aload_n 0, 1) := by decide +kernel
theorem dX5_canSet_157 : decode cX5_canSet 157 = .ok (.iload_n 2, 1) := by decide +kernel
theorem dX5_canSet_158 : decode cX5_canSet 158 = .ok (.invokevirtual 115, 3) := by decide +kernel
theorem dX5_canSet_161 : decode cX5_canSet 161 = .ok (.ifCond .eq 16, 3) := by decide +kernel
theorem dX5_canSet_164 : decode cX5_canSet 164 = .ok (.iload_n 3, 1) := by decide +kernel
theorem dX5_canSet_165 : decode cX5_canSet 165 = .ok (.bipush 99, 2) := by decide +kernel
theorem dX5_canSet_167 : decode cX5_canSet 167 = .ok (.invokestatic 104, 3) := by decide +kernel
theorem dX5_canSet_170 : decode cX5_canSet 170 = .ok (.ifCond .eq 7, 3) := by decide +kernel
theorem dX5_canSet_173 : decode cX5_canSet 173 = .ok (.iconst 1, 1) := by decide +kernel
theorem dX5_canSet_174 : decode cX5_canSet 174 = .ok (.goto 4, 3) := by decide +kernel
theorem dX5_canSet_177 : decode cX5_canSet 177 = .ok (.iconst 0, 1) := by decide +kernel
theorem dX5_canSet_178 : decode cX5_canSet 178 = .ok (.ireturn, 1) := by decide +kernel
theorem dX5_canSet_179 : decode cX5_canSet 179 = .ok (.iconst 0, 1) := by decide +kernel
theorem dX5_canSet_180 : decode cX5_canSet 180 = .ok (.ireturn, 1) := by decide +kernel
set_option maxRecDepth 20000 in
theorem dX5_party_0 : decode cX5_party 0 = .ok (.iload_n 1, 1) := by decide +kernel
theorem dX5_party_1 : decode cX5_party 1 = .ok (.invokestatic 121, 3) := by decide +kernel
theorem dX5_party_4 : decode cX5_party 4 = .ok (.ifCond .eq 30, 3) := by decide +kernel
theorem dX5_party_7 : decode cX5_party 7 = .ok (.iload_n 2, 1) := by decide +kernel
theorem dX5_party_8 : decode cX5_party 8 = .ok (.bipush 9, 2) := by decide +kernel
theorem dX5_party_10 : decode cX5_party 10 = .ok (.invokestatic 104, 3) := by decide +kernel
theorem dX5_party_13 : decode cX5_party 13 = .ok (.ifCond .eq 21, 3) := by decide +kernel
theorem dX5_party_16 : decode cX5_party 16 = .ok (.iload_n 3, 1) := by decide +kernel
theorem dX5_party_17 : decode cX5_party 17 = .ok (.invokestatic 108, 3) := by decide +kernel
theorem dX5_party_20 : decode cX5_party 20 = .ok (.ifCond .eq 14, 3) := by decide +kernel
theorem dX5_party_23 : decode cX5_party 23 = .ok (.aload_n 0, 1) := by decide +kernel
theorem dX5_party_24 : decode cX5_party 24 = .ok (.getfield 10, 3) := by decide +kernel
theorem dX5_party_27 : decode cX5_party 27 = .ok (.iload_n 3, 1) := by decide +kernel
theorem dX5_party_28 : decode cX5_party 28 = .ok (.invokevirtual 118, 3) := by decide +kernel
theorem dX5_party_31 : decode cX5_party 31 = .ok (.ifCond .eq 6, 3) := by decide +kernel
theorem dX5_party_34 : decode cX5_party 34 = .ok (.bipush (-2), 2) := by decide +kernel
theorem dX5_party_36 : decode cX5_party 36 = .ok (.ireturn, 1) := by decide +kernel
theorem dX5_party_37 : decode cX5_party 37 = .ok (.aload_n 0, 1) := by decide +kernel
theorem dX5_party_38 : decode cX5_party 38 = .ok (.getfield 10, 3) := by decide +kernel
theorem dX5_party_41 : decode cX5_party 41 = .ok (.getfield 124, 3) := by decide +kernel
theorem dX5_party_44 : decode cX5_party 44 = .ok (.istore 4, 2) := by decide +kernel
theorem dX5_party_46 : decode cX5_party 46 = .ok (.iload 4, 2) := by decide +kernel
theorem dX5_party_48 : decode cX5_party 48 = .ok (.iconst 5, 1) := by decide +kernel
theorem dX5_party_49 : decode cX5_party 49 = .ok (.if_icmp .lt 6, 3) := by decide +kernel
theorem dX5_party_52 : decode cX5_party 52 = .ok (.bipush (-4), 2) := by decide +kernel
theorem dX5_party_54 : decode cX5_party 54 = .ok (.ireturn, 1) := by decide +kernel
theorem dX5_party_55 : decode cX5_party 55 = .ok (.aload_n 0, 1) := by decide +kernel
theorem dX5_party_56 : decode cX5_party 56 = .ok (.getfield 10, 3) := by decide +kernel
theorem dX5_party_59 : decode cX5_party 59 = .ok (.getfield 127, 3) := by decide +kernel
theorem dX5_party_62 : decode cX5_party 62 = .ok (.iload 4, 2) := by decide +kernel
theorem dX5_party_64 : decode cX5_party 64 = .ok (.iload_n 1, 1) := by decide +kernel
theorem dX5_party_65 : decode cX5_party 65 = .ok (.iastore, 1) := by decide +kernel
theorem dX5_party_66 : decode cX5_party 66 = .ok (.aload_n 0, 1) := by decide +kernel
theorem dX5_party_67 : decode cX5_party 67 = .ok (.getfield 10, 3) := by decide +kernel
theorem dX5_party_70 : decode cX5_party 70 = .ok (.getfield 94, 3) := by decide +kernel
theorem dX5_party_73 : decode cX5_party 73 = .ok (.iload 4, 2) := by decide +kernel
theorem dX5_party_75 : decode cX5_party 75 = .ok (.iload_n 2, 1) := by decide +kernel
theorem dX5_party_76 : decode cX5_party 76 = .ok (.iastore, 1) := by decide +kernel
theorem dX5_party_77 : decode cX5_party 77 = .ok (.aload_n 0, 1) := by decide +kernel
theorem dX5_party_78 : decode cX5_party 78 = .ok (.getfield 10, 3) := by decide +kernel
theorem dX5_party_81 : decode cX5_party 81 = .ok (.getfield 98, 3) := by decide +kernel
theorem dX5_party_84 : decode cX5_party 84 = .ok (.iload 4, 2) := by decide +kernel
theorem dX5_party_86 : decode cX5_party 86 = .ok (.iload_n 3, 1) := by decide +kernel
theorem dX5_party_87 : decode cX5_party 87 = .ok (.iastore, 1) := by decide +kernel
theorem dX5_party_88 : decode cX5_party 88 = .ok (.aload_n 0, 1) := by decide +kernel
theorem dX5_party_89 : decode cX5_party 89 = .ok (.getfield 10, 3) := by decide +kernel
theorem dX5_party_92 : decode cX5_party 92 = .ok (.getfield 101, 3) := by decide +kernel
theorem dX5_party_95 : decode cX5_party 95 = .ok (.iload 4, 2) := by decide +kernel
theorem dX5_party_97 : decode cX5_party 97 = .ok (.iconst 0, 1) := by decide +kernel
theorem dX5_party_98 : decode cX5_party 98 = .ok (.iastore, 1) := by decide +kernel
theorem dX5_party_99 : decode cX5_party 99 = .ok (.aload_n 0, 1) := by decide +kernel
theorem dX5_party_100 : decode cX5_party 100 = .ok (.getfield 10, 3) := by decide +kernel
theorem dX5_party_103 : decode cX5_party 103 = .ok (.iload 4, 2) := by decide +kernel
theorem dX5_party_105 : decode cX5_party 105 = .ok (.iconst 1, 1) := by decide +kernel
theorem dX5_party_106 : decode cX5_party 106 = .ok (.iadd, 1) := by decide +kernel
theorem dX5_party_107 : decode cX5_party 107 = .ok (.putfield 124, 3) := by decide +kernel
theorem dX5_party_110 : decode cX5_party 110 = .ok (.iload 4, 2) := by decide +kernel
theorem dX5_party_112 : decode cX5_party 112 = .ok (.ireturn, 1) := by decide +kernel
set_option maxRecDepth 20000 in
theorem dX5_told_0 : decode cX5_told 0 = .ok (.iload_n 2, 1) := by decide +kernel
theorem dX5_told_1 : decode cX5_told 1 = .ok (.ifCond .ne 11, 3) := by decide +kernel
theorem dX5_told_4 : decode cX5_told 4 = .ok (.aload_n 0, 1) := by decide +kernel
theorem dX5_told_5 : decode cX5_told 5 = .ok (.getfield 10, 3) := by decide +kernel
theorem dX5_told_8 : decode cX5_told 8 = .ok (.getfield 81, 3) := by decide +kernel
theorem dX5_told_11 : decode cX5_told 11 = .ok (.ireturn, 1) := by decide +kernel
theorem dX5_told_12 : decode cX5_told 12 = .ok (.iload_n 2, 1) := by decide +kernel
theorem dX5_told_13 : decode cX5_told 13 = .ok (.iconst 1, 1) := by decide +kernel
theorem dX5_told_14 : decode cX5_told 14 = .ok (.if_icmp .eq 14, 3) := by decide +kernel
theorem dX5_told_17 : decode cX5_told 17 = .ok (.iload_n 2, 1) := by decide +kernel
theorem dX5_told_18 : decode cX5_told 18 = .ok (.iconst 2, 1) := by decide +kernel
theorem dX5_told_19 : decode cX5_told 19 = .ok (.if_icmp .eq 9, 3) := by decide +kernel
theorem dX5_told_22 : decode cX5_told 22 = .ok (.iload_n 2, 1) := by decide +kernel
theorem dX5_told_23 : decode cX5_told 23 = .ok (.bipush 11, 2) := by decide +kernel
theorem dX5_told_25 : decode cX5_told 25 = .ok (.if_icmp .ne 23, 3) := by decide +kernel
theorem dX5_told_28 : decode cX5_told 28 = .ok (.iload_n 1, 1) := by decide +kernel
theorem dX5_told_29 : decode cX5_told 29 = .ok (.invokestatic 108, 3) := by decide +kernel
theorem dX5_told_32 : decode cX5_told 32 = .ok (.ifCond .eq 12, 3) := by decide +kernel
theorem dX5_told_35 : decode cX5_told 35 = .ok (.aload_n 0, 1) := by decide +kernel
theorem dX5_told_36 : decode cX5_told 36 = .ok (.iload_n 1, 1) := by decide +kernel
theorem dX5_told_37 : decode cX5_told 37 = .ok (.iload_n 2, 1) := by decide +kernel
theorem dX5_told_38 : decode cX5_told 38 = .ok (.invokevirtual 130, 3) := by decide +kernel
theorem dX5_told_41 : decode cX5_told 41 = .ok (.goto 6, 3) := by decide +kernel
theorem dX5_told_44 : decode cX5_told 44 = .ok (.sipush (-1000), 3) := by decide +kernel
theorem dX5_told_47 : decode cX5_told 47 = .ok (.ireturn, 1) := by decide +kernel
theorem dX5_told_48 : decode cX5_told 48 = .ok (.aload_n 0, 1) := by decide +kernel
theorem dX5_told_49 : decode cX5_told 49 = .ok (.iload_n 1, 1) := by decide +kernel
theorem dX5_told_50 : decode cX5_told 50 = .ok (.invokevirtual 115, 3) := by decide +kernel
theorem dX5_told_53 : decode cX5_told 53 = .ok (.ifCond .eq 12, 3) := by decide +kernel
theorem dX5_told_56 : decode cX5_told 56 = .ok (.aload_n 0, 1) := by decide +kernel
theorem dX5_told_57 : decode cX5_told 57 = .ok (.iload_n 1, 1) := by decide +kernel
theorem dX5_told_58 : decode cX5_told 58 = .ok (.iload_n 2, 1) := by decide +kernel
theorem dX5_told_59 : decode cX5_told 59 = .ok (.invokevirtual 133, 3) := by decide +kernel
theorem dX5_told_62 : decode cX5_told 62 = .ok (.goto 6, 3) := by decide +kernel
theorem dX5_told_65 : decode cX5_told 65 = .ok (.sipush (-1000), 3) := by decide +kernel
theorem dX5_told_68 : decode cX5_told 68 = .ok (.ireturn, 1) := by decide +kernel
set_option maxRecDepth 20000 in
theorem dX5_toldOfTile_0 : decode cX5_toldOfTile 0 = .ok (.iload_n 2, 1) := by decide +kernel
theorem dX5_toldOfTile_1 : decode cX5_toldOfTile 1 = .ok (.iconst 1, 1) := by decide +kernel
theorem dX5_toldOfTile_2 : decode cX5_toldOfTile 2 = .ok (.if_icmp .ne 20, 3) := by decide +kernel
theorem dX5_toldOfTile_5 : decode cX5_toldOfTile 5 = .ok (.aload_n 0, 1) := by decide +kernel
theorem dX5_toldOfTile_6 : decode cX5_toldOfTile 6 = .ok (.getfield 10, 3) := by decide +kernel
theorem dX5_toldOfTile_9 : decode cX5_toldOfTile 9 = .ok (.iload_n 1, 1) := by decide +kernel
theorem dX5_toldOfTile_10 : decode cX5_toldOfTile 10 = .ok (.invokevirtual 136, 3) := by decide +kernel
theorem dX5_toldOfTile_13 : decode cX5_toldOfTile 13 = .ok (.ifCond .eq 7, 3) := by decide +kernel
theorem dX5_toldOfTile_16 : decode cX5_toldOfTile 16 = .ok (.iconst 1, 1) := by decide +kernel
theorem dX5_toldOfTile_17 : decode cX5_toldOfTile 17 = .ok (.goto 4, 3) := by decide +kernel
theorem dX5_toldOfTile_20 : decode cX5_toldOfTile 20 = .ok (.iconst 0, 1) := by decide +kernel
theorem dX5_toldOfTile_21 : decode cX5_toldOfTile 21 = .ok (.ireturn, 1) := by decide +kernel
theorem dX5_toldOfTile_22 : decode cX5_toldOfTile 22 = .ok (.iload_n 2, 1) := by decide +kernel
theorem dX5_toldOfTile_23 : decode cX5_toldOfTile 23 = .ok (.iconst 2, 1) := by decide +kernel
theorem dX5_toldOfTile_24 : decode cX5_toldOfTile 24 = .ok (.if_icmp .ne 20, 3) := by decide +kernel
theorem dX5_toldOfTile_27 : decode cX5_toldOfTile 27 = .ok (.aload_n 0, 1) := by decide +kernel
theorem dX5_toldOfTile_28 : decode cX5_toldOfTile 28 = .ok (.getfield 10, 3) := by decide +kernel
theorem dX5_toldOfTile_31 : decode cX5_toldOfTile 31 = .ok (.iload_n 1, 1) := by decide +kernel
theorem dX5_toldOfTile_32 : decode cX5_toldOfTile 32 = .ok (.invokevirtual 118, 3) := by decide +kernel
theorem dX5_toldOfTile_35 : decode cX5_toldOfTile 35 = .ok (.ifCond .eq 7, 3) := by decide +kernel
theorem dX5_toldOfTile_38 : decode cX5_toldOfTile 38 = .ok (.iconst 1, 1) := by decide +kernel
theorem dX5_toldOfTile_39 : decode cX5_toldOfTile 39 = .ok (.goto 4, 3) := by decide +kernel
theorem dX5_toldOfTile_42 : decode cX5_toldOfTile 42 = .ok (.iconst 0, 1) := by decide +kernel
theorem dX5_toldOfTile_43 : decode cX5_toldOfTile 43 = .ok (.ireturn, 1) := by decide +kernel
theorem dX5_toldOfTile_44 : decode cX5_toldOfTile 44 = .ok (.aload_n 0, 1) := by decide +kernel
theorem dX5_toldOfTile_45 : decode cX5_toldOfTile 45 = .ok (.getfield 10, 3) := by decide +kernel
theorem dX5_toldOfTile_48 : decode cX5_toldOfTile 48 = .ok (.iload_n 1, 1) := by decide +kernel
theorem dX5_toldOfTile_49 : decode cX5_toldOfTile 49 = .ok (.invokevirtual 111, 3) := by decide +kernel
theorem dX5_toldOfTile_52 : decode cX5_toldOfTile 52 = .ok (.ireturn, 1) := by decide +kernel
set_option maxRecDepth 20000 in
theorem dX5_toldOfParty_0 : decode cX5_toldOfParty 0 = .ok (.iload_n 2, 1) := by decide +kernel
theorem dX5_toldOfParty_1 : decode cX5_toldOfParty 1 = .ok (.tableswitch 135 3 10 #[47, 57, 67, 77, 87, 100, 113, 126], 47) := by decide +kernel
theorem dX5_toldOfParty_48 : decode cX5_toldOfParty 48 = .ok (.aload_n 0, 1) := by decide +kernel
theorem dX5_toldOfParty_49 : decode cX5_toldOfParty 49 = .ok (.getfield 10, 3) := by decide +kernel
theorem dX5_toldOfParty_52 : decode cX5_toldOfParty 52 = .ok (.getfield 94, 3) := by decide +kernel
theorem dX5_toldOfParty_55 : decode cX5_toldOfParty 55 = .ok (.iload_n 1, 1) := by decide +kernel
theorem dX5_toldOfParty_56 : decode cX5_toldOfParty 56 = .ok (.iaload, 1) := by decide +kernel
theorem dX5_toldOfParty_57 : decode cX5_toldOfParty 57 = .ok (.ireturn, 1) := by decide +kernel
theorem dX5_toldOfParty_58 : decode cX5_toldOfParty 58 = .ok (.aload_n 0, 1) := by decide +kernel
theorem dX5_toldOfParty_59 : decode cX5_toldOfParty 59 = .ok (.getfield 10, 3) := by decide +kernel
theorem dX5_toldOfParty_62 : decode cX5_toldOfParty 62 = .ok (.getfield 98, 3) := by decide +kernel
theorem dX5_toldOfParty_65 : decode cX5_toldOfParty 65 = .ok (.iload_n 1, 1) := by decide +kernel
theorem dX5_toldOfParty_66 : decode cX5_toldOfParty 66 = .ok (.iaload, 1) := by decide +kernel
theorem dX5_toldOfParty_67 : decode cX5_toldOfParty 67 = .ok (.ireturn, 1) := by decide +kernel
theorem dX5_toldOfParty_68 : decode cX5_toldOfParty 68 = .ok (.aload_n 0, 1) := by decide +kernel
theorem dX5_toldOfParty_69 : decode cX5_toldOfParty 69 = .ok (.getfield 10, 3) := by decide +kernel
theorem dX5_toldOfParty_72 : decode cX5_toldOfParty 72 = .ok (.getfield 101, 3) := by decide +kernel
theorem dX5_toldOfParty_75 : decode cX5_toldOfParty 75 = .ok (.iload_n 1, 1) := by decide +kernel
theorem dX5_toldOfParty_76 : decode cX5_toldOfParty 76 = .ok (.iaload, 1) := by decide +kernel
theorem dX5_toldOfParty_77 : decode cX5_toldOfParty 77 = .ok (.ireturn, 1) := by decide +kernel
theorem dX5_toldOfParty_78 : decode cX5_toldOfParty 78 = .ok (.aload_n 0, 1) := by decide +kernel
theorem dX5_toldOfParty_79 : decode cX5_toldOfParty 79 = .ok (.getfield 10, 3) := by decide +kernel
theorem dX5_toldOfParty_82 : decode cX5_toldOfParty 82 = .ok (.getfield 127, 3) := by decide +kernel
theorem dX5_toldOfParty_85 : decode cX5_toldOfParty 85 = .ok (.iload_n 1, 1) := by decide +kernel
theorem dX5_toldOfParty_86 : decode cX5_toldOfParty 86 = .ok (.iaload, 1) := by decide +kernel
theorem dX5_toldOfParty_87 : decode cX5_toldOfParty 87 = .ok (.ireturn, 1) := by decide +kernel
theorem dX5_toldOfParty_88 : decode cX5_toldOfParty 88 = .ok (.aload_n 0, 1) := by decide +kernel
theorem dX5_toldOfParty_89 : decode cX5_toldOfParty 89 = .ok (.getfield 28, 3) := by decide +kernel
theorem dX5_toldOfParty_92 : decode cX5_toldOfParty 92 = .ok (.aload_n 0, 1) := by decide +kernel
theorem dX5_toldOfParty_93 : decode cX5_toldOfParty 93 = .ok (.getfield 10, 3) := by decide +kernel
theorem dX5_toldOfParty_96 : decode cX5_toldOfParty 96 = .ok (.iload_n 1, 1) := by decide +kernel
theorem dX5_toldOfParty_97 : decode cX5_toldOfParty 97 = .ok (.invokevirtual 139, 3) := by decide +kernel
theorem dX5_toldOfParty_100 : decode cX5_toldOfParty 100 = .ok (.ireturn, 1) := by decide +kernel
theorem dX5_toldOfParty_101 : decode cX5_toldOfParty 101 = .ok (.aload_n 0, 1) := by decide +kernel
theorem dX5_toldOfParty_102 : decode cX5_toldOfParty 102 = .ok (.getfield 28, 3) := by decide +kernel
theorem dX5_toldOfParty_105 : decode cX5_toldOfParty 105 = .ok (.aload_n 0, 1) := by decide +kernel
theorem dX5_toldOfParty_106 : decode cX5_toldOfParty 106 = .ok (.getfield 10, 3) := by decide +kernel
theorem dX5_toldOfParty_109 : decode cX5_toldOfParty 109 = .ok (.iload_n 1, 1) := by decide +kernel
theorem dX5_toldOfParty_110 : decode cX5_toldOfParty 110 = .ok (.invokevirtual 143, 3) := by decide +kernel
theorem dX5_toldOfParty_113 : decode cX5_toldOfParty 113 = .ok (.ireturn, 1) := by decide +kernel
theorem dX5_toldOfParty_114 : decode cX5_toldOfParty 114 = .ok (.aload_n 0, 1) := by decide +kernel
theorem dX5_toldOfParty_115 : decode cX5_toldOfParty 115 = .ok (.getfield 28, 3) := by decide +kernel
theorem dX5_toldOfParty_118 : decode cX5_toldOfParty 118 = .ok (.aload_n 0, 1) := by decide +kernel
theorem dX5_toldOfParty_119 : decode cX5_toldOfParty 119 = .ok (.getfield 10, 3) := by decide +kernel
theorem dX5_toldOfParty_122 : decode cX5_toldOfParty 122 = .ok (.iload_n 1, 1) := by decide +kernel
theorem dX5_toldOfParty_123 : decode cX5_toldOfParty 123 = .ok (.invokevirtual 146, 3) := by decide +kernel
theorem dX5_toldOfParty_126 : decode cX5_toldOfParty 126 = .ok (.ireturn, 1) := by decide +kernel
theorem dX5_toldOfParty_127 : decode cX5_toldOfParty 127 = .ok (.aload_n 0, 1) := by decide +kernel
theorem dX5_toldOfParty_128 : decode cX5_toldOfParty 128 = .ok (.getfield 10, 3) := by decide +kernel
theorem dX5_toldOfParty_131 : decode cX5_toldOfParty 131 = .ok (.iload_n 1, 1) := by decide +kernel
theorem dX5_toldOfParty_132 : decode cX5_toldOfParty 132 = .ok (.invokevirtual 149, 3) := by decide +kernel
theorem dX5_toldOfParty_135 : decode cX5_toldOfParty 135 = .ok (.ireturn, 1) := by decide +kernel
theorem dX5_toldOfParty_136 : decode cX5_toldOfParty 136 = .ok (.sipush (-1000), 3) := by decide +kernel
theorem dX5_toldOfParty_139 : decode cX5_toldOfParty 139 = .ok (.ireturn, 1) := by decide +kernel
set_option maxRecDepth 20000 in
theorem dX5_leap_0 : decode cX5_leap 0 = .ok (.aload_n 0, 1) := by decide +kernel
theorem dX5_leap_1 : decode cX5_leap 1 = .ok (.iload_n 1, 1) := by decide +kernel
theorem dX5_leap_2 : decode cX5_leap 2 = .ok (.invokevirtual 115, 3) := by decide +kernel
theorem dX5_leap_5 : decode cX5_leap 5 = .ok (.ifCond .eq 12, 3) := by decide +kernel
theorem dX5_leap_8 : decode cX5_leap 8 = .ok (.iload_n 2, 1) := by decide +kernel
theorem dX5_leap_9 : decode cX5_leap 9 = .ok (.bipush 7, 2) := by decide +kernel
theorem dX5_leap_11 : decode cX5_leap 11 = .ok (.invokestatic 104, 3) := by decide +kernel
theorem dX5_leap_14 : decode cX5_leap 14 = .ok (.ifCond .ne 6, 3) := by decide +kernel
theorem dX5_leap_17 : decode cX5_leap 17 = .ok (.bipush (-2), 2) := by decide +kernel
theorem dX5_leap_19 : decode cX5_leap 19 = .ok (.ireturn, 1) := by decide +kernel
theorem dX5_leap_20 : decode cX5_leap 20 = .ok (.aload_n 0, 1) := by decide +kernel
theorem dX5_leap_21 : decode cX5_leap 21 = .ok (.getfield 10, 3) := by decide +kernel
theorem dX5_leap_24 : decode cX5_leap 24 = .ok (.iload_n 1, 1) := by decide +kernel
theorem dX5_leap_25 : decode cX5_leap 25 = .ok (.aload_n 0, 1) := by decide +kernel
theorem dX5_leap_26 : decode cX5_leap 26 = .ok (.getfield 10, 3) := by decide +kernel
theorem dX5_leap_29 : decode cX5_leap 29 = .ok (.getfield 98, 3) := by decide +kernel
theorem dX5_leap_32 : decode cX5_leap 32 = .ok (.iload_n 1, 1) := by decide +kernel
theorem dX5_leap_33 : decode cX5_leap 33 = .ok (.iaload, 1) := by decide +kernel
theorem dX5_leap_34 : decode cX5_leap 34 = .ok (.iload_n 2, 1) := by decide +kernel
theorem dX5_leap_35 : decode cX5_leap 35 = .ok (.invokevirtual 152, 3) := by decide +kernel
theorem dX5_leap_38 : decode cX5_leap 38 = .ok (.ireturn, 1) := by decide +kernel
set_option maxRecDepth 20000 in
theorem dX5_floor_0 : decode cX5_floor 0 = .ok (.iload_n 1, 1) := by decide +kernel
theorem dX5_floor_1 : decode cX5_floor 1 = .ok (.ifCond .ne 11, 3) := by decide +kernel
theorem dX5_floor_4 : decode cX5_floor 4 = .ok (.aload_n 0, 1) := by decide +kernel
theorem dX5_floor_5 : decode cX5_floor 5 = .ok (.getfield 10, 3) := by decide +kernel
theorem dX5_floor_8 : decode cX5_floor 8 = .ok (.getfield 85, 3) := by decide +kernel
theorem dX5_floor_11 : decode cX5_floor 11 = .ok (.lreturn, 1) := by decide +kernel
theorem dX5_floor_12 : decode cX5_floor 12 = .ok (.iload_n 1, 1) := by decide +kernel
theorem dX5_floor_13 : decode cX5_floor 13 = .ok (.iconst 1, 1) := by decide +kernel
theorem dX5_floor_14 : decode cX5_floor 14 = .ok (.if_icmp .ne 11, 3) := by decide +kernel
theorem dX5_floor_17 : decode cX5_floor 17 = .ok (.aload_n 0, 1) := by decide +kernel
theorem dX5_floor_18 : decode cX5_floor 18 = .ok (.getfield 10, 3) := by decide +kernel
theorem dX5_floor_21 : decode cX5_floor 21 = .ok (.getfield 91, 3) := by decide +kernel
theorem dX5_floor_24 : decode cX5_floor 24 = .ok (.lreturn, 1) := by decide +kernel
theorem dX5_floor_25 : decode cX5_floor 25 = .ok (.iload_n 1, 1) := by decide +kernel
theorem dX5_floor_26 : decode cX5_floor 26 = .ok (.iconst 2, 1) := by decide +kernel
theorem dX5_floor_27 : decode cX5_floor 27 = .ok (.if_icmp .ne 13, 3) := by decide +kernel
theorem dX5_floor_30 : decode cX5_floor 30 = .ok (.aload_n 0, 1) := by decide +kernel
theorem dX5_floor_31 : decode cX5_floor 31 = .ok (.getfield 10, 3) := by decide +kernel
theorem dX5_floor_34 : decode cX5_floor 34 = .ok (.invokevirtual 156, 3) := by decide +kernel
theorem dX5_floor_37 : decode cX5_floor 37 = .ok (.goto 6, 3) := by decide +kernel
theorem dX5_floor_40 : decode cX5_floor 40 = .ok (.ldc2_w 160, 3) := by decide +kernel
theorem dX5_floor_43 : decode cX5_floor 43 = .ok (.lreturn, 1) := by decide +kernel
set_option maxRecDepth 20000 in
theorem dX5_feed_0 : decode cX5_feed 0 = .ok (.iload_n 1, 1) := by decide +kernel
theorem dX5_feed_1 : decode cX5_feed 1 = .ok (.sipush 255, 3) := by decide +kernel
theorem dX5_feed_4 : decode cX5_feed 4 = .ok (.invokestatic 104, 3) := by decide +kernel
theorem dX5_feed_7 : decode cX5_feed 7 = .ok (.ifCond .ne 6, 3) := by decide +kernel
theorem dX5_feed_10 : decode cX5_feed 10 = .ok (.bipush (-2), 2) := by decide +kernel
theorem dX5_feed_12 : decode cX5_feed 12 = .ok (.ireturn, 1) := by decide +kernel
theorem dX5_feed_13 : decode cX5_feed 13 = .ok (.aload_n 0, 1) := by decide +kernel
theorem dX5_feed_14 : decode cX5_feed 14 = .ok (.getfield 35, 3) := by decide +kernel
theorem dX5_feed_17 : decode cX5_feed 17 = .ok (.iload_n 1, 1) := by decide +kernel
theorem dX5_feed_18 : decode cX5_feed 18 = .ok (.invokevirtual 58, 3) := by decide +kernel
theorem dX5_feed_21 : decode cX5_feed 21 = .ok (.ifCond .eq 13, 3) := by decide +kernel
theorem dX5_feed_24 : decode cX5_feed 24 = .ok (.aload_n 0, 1) := by decide +kernel
theorem dX5_feed_25 : decode cX5_feed 25 = .ok (.getfield 35, 3) := by decide +kernel
theorem dX5_feed_28 : decode cX5_feed 28 = .ok (.getfield 162, 3) := by decide +kernel
theorem dX5_feed_31 : decode cX5_feed 31 = .ok (.goto 5, 3) := by decide +kernel
theorem dX5_feed_34 : decode cX5_feed 34 = .ok (.bipush (-4), 2) := by decide +kernel
theorem dX5_feed_36 : decode cX5_feed 36 = .ok (.ireturn, 1) := by decide +kernel
set_option maxRecDepth 20000 in
theorem dX5_text_0 : decode cX5_text 0 = .ok (.aload_n 0, 1) := by decide +kernel
theorem dX5_text_1 : decode cX5_text 1 = .ok (.getfield 28, 3) := by decide +kernel
theorem dX5_text_4 : decode cX5_text 4 = .ok (.getfield 165, 3) := by decide +kernel
theorem dX5_text_7 : decode cX5_text 7 = .ok (.bipush 6, 2) := by decide +kernel
theorem dX5_text_9 : decode cX5_text 9 = .ok (.if_icmp .lt 6, 3) := by decide +kernel
theorem dX5_text_12 : decode cX5_text 12 = .ok (.bipush (-4), 2) := by decide +kernel
theorem dX5_text_14 : decode cX5_text 14 = .ok (.ireturn, 1) := by decide +kernel
theorem dX5_text_15 : decode cX5_text 15 = .ok (.aload_n 0, 1) := by decide +kernel
theorem dX5_text_16 : decode cX5_text 16 = .ok (.getfield 35, 3) := by decide +kernel
theorem dX5_text_19 : decode cX5_text 19 = .ok (.invokevirtual 62, 3) := by decide +kernel
theorem dX5_text_22 : decode cX5_text 22 = .ok (.astore_n 1, 1) := by decide +kernel
theorem dX5_text_23 : decode cX5_text 23 = .ok (.aload_n 0, 1) := by decide +kernel
theorem dX5_text_24 : decode cX5_text 24 = .ok (.getfield 35, 3) := by decide +kernel
theorem dX5_text_27 : decode cX5_text 27 = .ok (.invokevirtual 70, 3) := by decide +kernel
theorem dX5_text_30 : decode cX5_text 30 = .ok (.aload_n 1, 1) := by decide +kernel
theorem dX5_text_31 : decode cX5_text 31 = .ok (.ifnonnull 14, 3) := by decide +kernel
theorem dX5_text_34 : decode cX5_text 34 = .ok (.bipush (-100), 2) := by decide +kernel
theorem dX5_text_36 : decode cX5_text 36 = .ok (.aload_n 0, 1) := by decide +kernel
theorem dX5_text_37 : decode cX5_text 37 = .ok (.getfield 35, 3) := by decide +kernel
theorem dX5_text_40 : decode cX5_text 40 = .ok (.getfield 166, 3) := by decide +kernel
theorem dX5_text_43 : decode cX5_text 43 = .ok (.isub, 1) := by decide +kernel
theorem dX5_text_44 : decode cX5_text 44 = .ok (.ireturn, 1) := by decide +kernel
theorem dX5_text_45 : decode cX5_text 45 = .ok (.aload_n 0, 1) := by decide +kernel
theorem dX5_text_46 : decode cX5_text 46 = .ok (.getfield 28, 3) := by decide +kernel
theorem dX5_text_49 : decode cX5_text 49 = .ok (.aload_n 1, 1) := by decide +kernel
theorem dX5_text_50 : decode cX5_text 50 = .ok (.invokevirtual 66, 3) := by decide +kernel
theorem dX5_text_53 : decode cX5_text 53 = .ok (.ireturn, 1) := by decide +kernel
set_option maxRecDepth 20000 in
theorem dX5_force_0 : decode cX5_force 0 = .ok (.aload_n 0, 1) := by decide +kernel
theorem dX5_force_1 : decode cX5_force 1 = .ok (.iload_n 1, 1) := by decide +kernel
theorem dX5_force_2 : decode cX5_force 2 = .ok (.invokevirtual 169, 3) := by decide +kernel
theorem dX5_force_5 : decode cX5_force 5 = .ok (.ifCond .ne 6, 3) := by decide +kernel
theorem dX5_force_8 : decode cX5_force 8 = .ok (.bipush (-2), 2) := by decide +kernel
theorem dX5_force_10 : decode cX5_force 10 = .ok (.ireturn, 1) := by decide +kernel
theorem dX5_force_11 : decode cX5_force 11 = .ok (.aload_n 0, 1) := by decide +kernel
theorem dX5_force_12 : decode cX5_force 12 = .ok (.getfield 10, 3) := by decide +kernel
theorem dX5_force_15 : decode cX5_force 15 = .ok (.getfield 172, 3) := by decide +kernel
theorem dX5_force_18 : decode cX5_force 18 = .ok (.istore_n 2, 1) := by decide +kernel
theorem dX5_force_19 : decode cX5_force 19 = .ok (.aload_n 0, 1) := by decide +kernel
theorem dX5_force_20 : decode cX5_force 20 = .ok (.getfield 10, 3) := by decide +kernel
theorem dX5_force_23 : decode cX5_force 23 = .ok (.iload_n 1, 1) := by decide +kernel
theorem dX5_force_24 : decode cX5_force 24 = .ok (.putfield 172, 3) := by decide +kernel
theorem dX5_force_27 : decode cX5_force 27 = .ok (.iload_n 2, 1) := by decide +kernel
theorem dX5_force_28 : decode cX5_force 28 = .ok (.ireturn, 1) := by decide +kernel
set_option maxRecDepth 20000 in
theorem dX5_minute_0 : decode cX5_minute 0 = .ok (.aload_n 0, 1) := by decide +kernel
theorem dX5_minute_1 : decode cX5_minute 1 = .ok (.getfield 10, 3) := by decide +kernel
theorem dX5_minute_4 : decode cX5_minute 4 = .ok (.getfield 81, 3) := by decide +kernel
theorem dX5_minute_7 : decode cX5_minute 7 = .ok (.sipush 999, 3) := by decide +kernel
theorem dX5_minute_10 : decode cX5_minute 10 = .ok (.if_icmp .lt 6, 3) := by decide +kernel
theorem dX5_minute_13 : decode cX5_minute 13 = .ok (.bipush (-3), 2) := by decide +kernel
theorem dX5_minute_15 : decode cX5_minute 15 = .ok (.ireturn, 1) := by decide +kernel
theorem dX5_minute_16 : decode cX5_minute 16 = .ok (.aload_n 0, 1) := by decide +kernel
theorem dX5_minute_17 : decode cX5_minute 17 = .ok (.getfield 28, 3) := by decide +kernel
theorem dX5_minute_20 : decode cX5_minute 20 = .ok (.aload_n 0, 1) := by decide +kernel
theorem dX5_minute_21 : decode cX5_minute 21 = .ok (.getfield 10, 3) := by decide +kernel
theorem dX5_minute_24 : decode cX5_minute 24 = .ok (.iconst 1, 1) := by decide +kernel
theorem dX5_minute_25 : decode cX5_minute 25 = .ok (.iconst (-1), 1) := by decide +kernel
theorem dX5_minute_26 : decode cX5_minute 26 = .ok (.invokevirtual 175, 3) := by decide +kernel
theorem dX5_minute_29 : decode cX5_minute 29 = .ok (.ireturn, 1) := by decide +kernel
set_option maxRecDepth 20000 in
theorem dX5_run_0 : decode cX5_run 0 = .ok (.aload_n 0, 1) := by decide +kernel
theorem dX5_run_1 : decode cX5_run 1 = .ok (.iload_n 1, 1) := by decide +kernel
theorem dX5_run_2 : decode cX5_run 2 = .ok (.invokevirtual 115, 3) := by decide +kernel
theorem dX5_run_5 : decode cX5_run 5 = .ok (.ifCond .eq 20, 3) := by decide +kernel
theorem dX5_run_8 : decode cX5_run 8 = .ok (.iload_n 2, 1) := by decide +kernel
theorem dX5_run_9 : decode cX5_run 9 = .ok (.bipush 40, 2) := by decide +kernel
theorem dX5_run_11 : decode cX5_run 11 = .ok (.invokestatic 104, 3) := by decide +kernel
theorem dX5_run_14 : decode cX5_run 14 = .ok (.ifCond .eq 11, 3) := by decide +kernel
theorem dX5_run_17 : decode cX5_run 17 = .ok (.iload_n 3, 1) := by decide +kernel
theorem dX5_run_18 : decode cX5_run 18 = .ok (.iconst 3, 1) := by decide +kernel
theorem dX5_run_19 : decode cX5_run 19 = .ok (.invokestatic 104, 3) := by decide +kernel
theorem dX5_run_22 : decode cX5_run 22 = .ok (.ifCond .ne 6, 3) := by decide +kernel
theorem dX5_run_25 : decode cX5_run 25 = .ok (.bipush (-2), 2) := by decide +kernel
theorem dX5_run_27 : decode cX5_run 27 = .ok (.ireturn, 1) := by decide +kernel
theorem dX5_run_28 : decode cX5_run 28 = .ok (.aload_n 0, 1) := by decide +kernel
theorem dX5_run_29 : decode cX5_run 29 = .ok (.getfield 16, 3) := by decide +kernel
theorem dX5_run_32 : decode cX5_run 32 = .ok (.aload_n 0, 1) := by decide +kernel
theorem dX5_run_33 : decode cX5_run 33 = .ok (.getfield 10, 3) := by decide +kernel
theorem dX5_run_36 : decode cX5_run 36 = .ok (.invokevirtual 179, 3) := by decide +kernel
theorem dX5_run_39 : decode cX5_run 39 = .ok (.aload_n 0, 1) := by decide +kernel
theorem dX5_run_40 : decode cX5_run 40 = .ok (.getfield 28, 3) := by decide +kernel
theorem dX5_run_43 : decode cX5_run 43 = .ok (.aload_n 0, 1) := by decide +kernel
theorem dX5_run_44 : decode cX5_run 44 = .ok (.getfield 16, 3) := by decide +kernel
theorem dX5_run_47 : decode cX5_run 47 = .ok (.iload_n 2, 1) := by decide +kernel
theorem dX5_run_48 : decode cX5_run 48 = .ok (.iconst (-1), 1) := by decide +kernel
theorem dX5_run_49 : decode cX5_run 49 = .ok (.invokevirtual 175, 3) := by decide +kernel
theorem dX5_run_52 : decode cX5_run 52 = .ok (.pop, 1) := by decide +kernel
theorem dX5_run_53 : decode cX5_run 53 = .ok (.iload_n 3, 1) := by decide +kernel
theorem dX5_run_54 : decode cX5_run 54 = .ok (.ifCond .ne 13, 3) := by decide +kernel
theorem dX5_run_57 : decode cX5_run 57 = .ok (.aload_n 0, 1) := by decide +kernel
theorem dX5_run_58 : decode cX5_run 58 = .ok (.getfield 16, 3) := by decide +kernel
theorem dX5_run_61 : decode cX5_run 61 = .ok (.getfield 98, 3) := by decide +kernel
theorem dX5_run_64 : decode cX5_run 64 = .ok (.iload_n 1, 1) := by decide +kernel
theorem dX5_run_65 : decode cX5_run 65 = .ok (.iaload, 1) := by decide +kernel
theorem dX5_run_66 : decode cX5_run 66 = .ok (.ireturn, 1) := by decide +kernel
theorem dX5_run_67 : decode cX5_run 67 = .ok (.iload_n 3, 1) := by decide +kernel
theorem dX5_run_68 : decode cX5_run 68 = .ok (.iconst 1, 1) := by decide +kernel
theorem dX5_run_69 : decode cX5_run 69 = .ok (.if_icmp .ne 13, 3) := by decide +kernel
theorem dX5_run_72 : decode cX5_run 72 = .ok (.aload_n 0, 1) := by decide +kernel
theorem dX5_run_73 : decode cX5_run 73 = .ok (.getfield 16, 3) := by decide +kernel
theorem dX5_run_76 : decode cX5_run 76 = .ok (.getfield 101, 3) := by decide +kernel
theorem dX5_run_79 : decode cX5_run 79 = .ok (.iload_n 1, 1) := by decide +kernel
theorem dX5_run_80 : decode cX5_run 80 = .ok (.iaload, 1) := by decide +kernel
theorem dX5_run_81 : decode cX5_run 81 = .ok (.ireturn, 1) := by decide +kernel
theorem dX5_run_82 : decode cX5_run 82 = .ok (.iload_n 3, 1) := by decide +kernel
theorem dX5_run_83 : decode cX5_run 83 = .ok (.iconst 2, 1) := by decide +kernel
theorem dX5_run_84 : decode cX5_run 84 = .ok (.if_icmp .ne 14, 3) := by decide +kernel
theorem dX5_run_87 : decode cX5_run 87 = .ok (.aload_n 0, 1) := by decide +kernel
theorem dX5_run_88 : decode cX5_run 88 = .ok (.getfield 16, 3) := by decide +kernel
theorem dX5_run_91 : decode cX5_run 91 = .ok (.iload_n 1, 1) := by decide +kernel
theorem dX5_run_92 : decode cX5_run 92 = .ok (.invokevirtual 149, 3) := by decide +kernel
theorem dX5_run_95 : decode cX5_run 95 = .ok (.goto 11, 3) := by decide +kernel
theorem dX5_run_98 : decode cX5_run 98 = .ok (.aload_n 0, 1) := by decide +kernel
theorem dX5_run_99 : decode cX5_run 99 = .ok (.getfield 16, 3) := by decide +kernel
theorem dX5_run_102 : decode cX5_run 102 = .ok (.iconst 1, 1) := by decide +kernel
theorem dX5_run_103 : decode cX5_run 103 = .ok (.invokevirtual 183, 3) := by decide +kernel
theorem dX5_run_106 : decode cX5_run 106 = .ok (.ireturn, 1) := by decide +kernel
set_option maxRecDepth 20000 in
theorem dX5_call_0 : decode cX5_call 0 = .ok (.iload_n 1, 1) := by decide +kernel
theorem dX5_call_1 : decode cX5_call 1 = .ok (.iconst 2, 1) := by decide +kernel
theorem dX5_call_2 : decode cX5_call 2 = .ok (.invokestatic 104, 3) := by decide +kernel
theorem dX5_call_5 : decode cX5_call 5 = .ok (.ifCond .eq 20, 3) := by decide +kernel
theorem dX5_call_8 : decode cX5_call 8 = .ok (.iload_n 2, 1) := by decide +kernel
theorem dX5_call_9 : decode cX5_call 9 = .ok (.bipush 40, 2) := by decide +kernel
theorem dX5_call_11 : decode cX5_call 11 = .ok (.invokestatic 104, 3) := by decide +kernel
theorem dX5_call_14 : decode cX5_call 14 = .ok (.ifCond .eq 11, 3) := by decide +kernel
theorem dX5_call_17 : decode cX5_call 17 = .ok (.iload_n 3, 1) := by decide +kernel
theorem dX5_call_18 : decode cX5_call 18 = .ok (.iconst 1, 1) := by decide +kernel
theorem dX5_call_19 : decode cX5_call 19 = .ok (.invokestatic 104, 3) := by decide +kernel
theorem dX5_call_22 : decode cX5_call 22 = .ok (.ifCond .ne 6, 3) := by decide +kernel
theorem dX5_call_25 : decode cX5_call 25 = .ok (.bipush (-2), 2) := by decide +kernel
theorem dX5_call_27 : decode cX5_call 27 = .ok (.ireturn, 1) := by decide +kernel
theorem dX5_call_28 : decode cX5_call 28 = .ok (.aload_n 0, 1) := by decide +kernel
theorem dX5_call_29 : decode cX5_call 29 = .ok (.getfield 16, 3) := by decide +kernel
theorem dX5_call_32 : decode cX5_call 32 = .ok (.aload_n 0, 1) := by decide +kernel
theorem dX5_call_33 : decode cX5_call 33 = .ok (.getfield 10, 3) := by decide +kernel
theorem dX5_call_36 : decode cX5_call 36 = .ok (.invokevirtual 179, 3) := by decide +kernel
theorem dX5_call_39 : decode cX5_call 39 = .ok (.iconst 0, 1) := by decide +kernel
theorem dX5_call_40 : decode cX5_call 40 = .ok (.istore 4, 2) := by decide +kernel
theorem dX5_call_42 : decode cX5_call 42 = .ok (.aload_n 0, 1) := by decide +kernel
theorem dX5_call_43 : decode cX5_call 43 = .ok (.getfield 16, 3) := by decide +kernel
theorem dX5_call_46 : decode cX5_call 46 = .ok (.iload_n 1, 1) := by decide +kernel
theorem dX5_call_47 : decode cX5_call 47 = .ok (.invokevirtual 183, 3) := by decide +kernel
theorem dX5_call_50 : decode cX5_call 50 = .ok (.istore 5, 2) := by decide +kernel
theorem dX5_call_52 : decode cX5_call 52 = .ok (.iconst 1, 1) := by decide +kernel
theorem dX5_call_53 : decode cX5_call 53 = .ok (.istore 6, 2) := by decide +kernel
theorem dX5_call_55 : decode cX5_call 55 = .ok (.iload 6, 2) := by decide +kernel
theorem dX5_call_57 : decode cX5_call 57 = .ok (.iload_n 2, 1) := by decide +kernel
theorem dX5_call_58 : decode cX5_call 58 = .ok (.if_icmp .gt 48, 3) := by decide +kernel
theorem dX5_call_61 : decode cX5_call 61 = .ok (.aload_n 0, 1) := by decide +kernel
theorem dX5_call_62 : decode cX5_call 62 = .ok (.getfield 28, 3) := by decide +kernel
theorem dX5_call_65 : decode cX5_call 65 = .ok (.aload_n 0, 1) := by decide +kernel
theorem dX5_call_66 : decode cX5_call 66 = .ok (.getfield 16, 3) := by decide +kernel
theorem dX5_call_69 : decode cX5_call 69 = .ok (.iconst 1, 1) := by decide +kernel
theorem dX5_call_70 : decode cX5_call 70 = .ok (.iconst (-1), 1) := by decide +kernel
theorem dX5_call_71 : decode cX5_call 71 = .ok (.invokevirtual 175, 3) := by decide +kernel
theorem dX5_call_74 : decode cX5_call 74 = .ok (.pop, 1) := by decide +kernel
theorem dX5_call_75 : decode cX5_call 75 = .ok (.aload_n 0, 1) := by decide +kernel
theorem dX5_call_76 : decode cX5_call 76 = .ok (.getfield 16, 3) := by decide +kernel
theorem dX5_call_79 : decode cX5_call 79 = .ok (.iload_n 1, 1) := by decide +kernel
theorem dX5_call_80 : decode cX5_call 80 = .ok (.invokevirtual 183, 3) := by decide +kernel
theorem dX5_call_83 : decode cX5_call 83 = .ok (.istore 7, 2) := by decide +kernel
theorem dX5_call_85 : decode cX5_call 85 = .ok (.iload 7, 2) := by decide +kernel
theorem dX5_call_87 : decode cX5_call 87 = .ok (.iload 5, 2) := by decide +kernel
theorem dX5_call_89 : decode cX5_call 89 = .ok (.if_icmp .le 11, 3) := by decide +kernel
theorem dX5_call_92 : decode cX5_call 92 = .ok (.iload 7, 2) := by decide +kernel
theorem dX5_call_94 : decode cX5_call 94 = .ok (.istore 5, 2) := by decide +kernel
theorem dX5_call_96 : decode cX5_call 96 = .ok (.iload 6, 2) := by decide +kernel
theorem dX5_call_98 : decode cX5_call 98 = .ok (.istore 4, 2) := by decide +kernel
theorem dX5_call_100 : decode cX5_call 100 = .ok (.iinc 6 1, 3) := by decide +kernel
theorem dX5_call_103 : decode cX5_call 103 = .ok (.goto (-48), 3) := by decide +kernel
theorem dX5_call_106 : decode cX5_call 106 = .ok (.iload_n 3, 1) := by decide +kernel
theorem dX5_call_107 : decode cX5_call 107 = .ok (.ifCond .ne 8, 3) := by decide +kernel
theorem dX5_call_110 : decode cX5_call 110 = .ok (.iload 4, 2) := by decide +kernel
theorem dX5_call_112 : decode cX5_call 112 = .ok (.goto 5, 3) := by decide +kernel
theorem dX5_call_115 : decode cX5_call 115 = .ok (.iload 5, 2) := by decide +kernel
theorem dX5_call_117 : decode cX5_call 117 = .ok (.ireturn, 1) := by decide +kernel
set_option maxRecDepth 20000 in
theorem dX5_meet_0 : decode cX5_meet 0 = .ok (.aload_n 0, 1) := by decide +kernel
theorem dX5_meet_1 : decode cX5_meet 1 = .ok (.iload_n 1, 1) := by decide +kernel
theorem dX5_meet_2 : decode cX5_meet 2 = .ok (.invokevirtual 115, 3) := by decide +kernel
theorem dX5_meet_5 : decode cX5_meet 5 = .ok (.ifCond .eq 16, 3) := by decide +kernel
theorem dX5_meet_8 : decode cX5_meet 8 = .ok (.aload_n 0, 1) := by decide +kernel
theorem dX5_meet_9 : decode cX5_meet 9 = .ok (.iload_n 2, 1) := by decide +kernel
theorem dX5_meet_10 : decode cX5_meet 10 = .ok (.invokevirtual 115, 3) := by decide +kernel
theorem dX5_meet_13 : decode cX5_meet 13 = .ok (.ifCond .eq 8, 3) := by decide +kernel
theorem dX5_meet_16 : decode cX5_meet 16 = .ok (.iload_n 1, 1) := by decide +kernel
theorem dX5_meet_17 : decode cX5_meet 17 = .ok (.iload_n 2, 1) := by decide +kernel
theorem dX5_meet_18 : decode cX5_meet 18 = .ok (.if_icmp .ne 6, 3) := by decide +kernel
theorem dX5_meet_21 : decode cX5_meet 21 = .ok (.bipush (-2), 2) := by decide +kernel
theorem dX5_meet_23 : decode cX5_meet 23 = .ok (.ireturn, 1) := by decide +kernel
theorem dX5_meet_24 : decode cX5_meet 24 = .ok (.aload_n 0, 1) := by decide +kernel
theorem dX5_meet_25 : decode cX5_meet 25 = .ok (.getfield 16, 3) := by decide +kernel
theorem dX5_meet_28 : decode cX5_meet 28 = .ok (.aload_n 0, 1) := by decide +kernel
theorem dX5_meet_29 : decode cX5_meet 29 = .ok (.getfield 10, 3) := by decide +kernel
theorem dX5_meet_32 : decode cX5_meet 32 = .ok (.invokevirtual 179, 3) := by decide +kernel
theorem dX5_meet_35 : decode cX5_meet 35 = .ok (.iconst 0, 1) := by decide +kernel
theorem dX5_meet_36 : decode cX5_meet 36 = .ok (.istore_n 3, 1) := by decide +kernel
theorem dX5_meet_37 : decode cX5_meet 37 = .ok (.iload_n 3, 1) := by decide +kernel
theorem dX5_meet_38 : decode cX5_meet 38 = .ok (.bipush 60, 2) := by decide +kernel
theorem dX5_meet_40 : decode cX5_meet 40 = .ok (.if_icmp .gt 46, 3) := by decide +kernel
theorem dX5_meet_43 : decode cX5_meet 43 = .ok (.aload_n 0, 1) := by decide +kernel
theorem dX5_meet_44 : decode cX5_meet 44 = .ok (.getfield 16, 3) := by decide +kernel
theorem dX5_meet_47 : decode cX5_meet 47 = .ok (.getfield 98, 3) := by decide +kernel
theorem dX5_meet_50 : decode cX5_meet 50 = .ok (.iload_n 1, 1) := by decide +kernel
theorem dX5_meet_51 : decode cX5_meet 51 = .ok (.iaload, 1) := by decide +kernel
theorem dX5_meet_52 : decode cX5_meet 52 = .ok (.aload_n 0, 1) := by decide +kernel
theorem dX5_meet_53 : decode cX5_meet 53 = .ok (.getfield 16, 3) := by decide +kernel
theorem dX5_meet_56 : decode cX5_meet 56 = .ok (.getfield 98, 3) := by decide +kernel
theorem dX5_meet_59 : decode cX5_meet 59 = .ok (.iload_n 2, 1) := by decide +kernel
theorem dX5_meet_60 : decode cX5_meet 60 = .ok (.iaload, 1) := by decide +kernel
theorem dX5_meet_61 : decode cX5_meet 61 = .ok (.if_icmp .ne 5, 3) := by decide +kernel
theorem dX5_meet_64 : decode cX5_meet 64 = .ok (.iload_n 3, 1) := by decide +kernel
theorem dX5_meet_65 : decode cX5_meet 65 = .ok (.ireturn, 1) := by decide +kernel
theorem dX5_meet_66 : decode cX5_meet 66 = .ok (.aload_n 0, 1) := by decide +kernel
theorem dX5_meet_67 : decode cX5_meet 67 = .ok (.getfield 28, 3) := by decide +kernel
theorem dX5_meet_70 : decode cX5_meet 70 = .ok (.aload_n 0, 1) := by decide +kernel
theorem dX5_meet_71 : decode cX5_meet 71 = .ok (.getfield 16, 3) := by decide +kernel
theorem dX5_meet_74 : decode cX5_meet 74 = .ok (.iconst 1, 1) := by decide +kernel
theorem dX5_meet_75 : decode cX5_meet 75 = .ok (.iconst (-1), 1) := by decide +kernel
theorem dX5_meet_76 : decode cX5_meet 76 = .ok (.invokevirtual 175, 3) := by decide +kernel
theorem dX5_meet_79 : decode cX5_meet 79 = .ok (.pop, 1) := by decide +kernel
theorem dX5_meet_80 : decode cX5_meet 80 = .ok (.iinc 3 1, 3) := by decide +kernel
theorem dX5_meet_83 : decode cX5_meet 83 = .ok (.goto (-46), 3) := by decide +kernel
theorem dX5_meet_86 : decode cX5_meet 86 = .ok (.iconst (-1), 1) := by decide +kernel
theorem dX5_meet_87 : decode cX5_meet 87 = .ok (.ireturn, 1) := by decide +kernel
set_option maxRecDepth 20000 in
theorem dX5_reached_0 : decode cX5_reached 0 = .ok (.aload_n 0, 1) := by decide +kernel
theorem dX5_reached_1 : decode cX5_reached 1 = .ok (.iload_n 1, 1) := by decide +kernel
theorem dX5_reached_2 : decode cX5_reached 2 = .ok (.invokevirtual 115, 3) := by decide +kernel
theorem dX5_reached_5 : decode cX5_reached 5 = .ok (.ifCond .eq 12, 3) := by decide +kernel
theorem dX5_reached_8 : decode cX5_reached 8 = .ok (.iload_n 2, 1) := by decide +kernel
theorem dX5_reached_9 : decode cX5_reached 9 = .ok (.bipush 63, 2) := by decide +kernel
theorem dX5_reached_11 : decode cX5_reached 11 = .ok (.invokestatic 104, 3) := by decide +kernel
theorem dX5_reached_14 : decode cX5_reached 14 = .ok (.ifCond .ne 7, 3) := by decide +kernel
theorem dX5_reached_17 : decode cX5_reached 17 = .ok (.ldc2_w 160, 3) := by decide +kernel
theorem dX5_reached_20 : decode cX5_reached 20 = .ok (.lreturn, 1) := by decide +kernel
theorem dX5_reached_21 : decode cX5_reached 21 = .ok (.lconst 1, 1) := by decide +kernel
theorem dX5_reached_22 : decode cX5_reached 22 = .ok (.aload_n 0, 1) := by decide +kernel
theorem dX5_reached_23 : decode cX5_reached 23 = .ok (.getfield 10, 3) := by decide +kernel
theorem dX5_reached_26 : decode cX5_reached 26 = .ok (.getfield 98, 3) := by decide +kernel
theorem dX5_reached_29 : decode cX5_reached 29 = .ok (.iload_n 1, 1) := by decide +kernel
theorem dX5_reached_30 : decode cX5_reached 30 = .ok (.iaload, 1) := by decide +kernel
theorem dX5_reached_31 : decode cX5_reached 31 = .ok (.lshl, 1) := by decide +kernel
theorem dX5_reached_32 : decode cX5_reached 32 = .ok (.lstore_n 3, 1) := by decide +kernel
theorem dX5_reached_33 : decode cX5_reached 33 = .ok (.iconst 0, 1) := by decide +kernel
theorem dX5_reached_34 : decode cX5_reached 34 = .ok (.istore 5, 2) := by decide +kernel
theorem dX5_reached_36 : decode cX5_reached 36 = .ok (.iload 5, 2) := by decide +kernel
theorem dX5_reached_38 : decode cX5_reached 38 = .ok (.iload_n 2, 1) := by decide +kernel
theorem dX5_reached_39 : decode cX5_reached 39 = .ok (.if_icmp .ge 19, 3) := by decide +kernel
theorem dX5_reached_42 : decode cX5_reached 42 = .ok (.aload_n 0, 1) := by decide +kernel
theorem dX5_reached_43 : decode cX5_reached 43 = .ok (.getfield 10, 3) := by decide +kernel
theorem dX5_reached_46 : decode cX5_reached 46 = .ok (.iload_n 1, 1) := by decide +kernel
theorem dX5_reached_47 : decode cX5_reached 47 = .ok (.lload_n 3, 1) := by decide +kernel
theorem dX5_reached_48 : decode cX5_reached 48 = .ok (.invokevirtual 186, 3) := by decide +kernel
theorem dX5_reached_51 : decode cX5_reached 51 = .ok (.lstore_n 3, 1) := by decide +kernel
theorem dX5_reached_52 : decode cX5_reached 52 = .ok (.iinc 5 1, 3) := by decide +kernel
theorem dX5_reached_55 : decode cX5_reached 55 = .ok (.goto (-19), 3) := by decide +kernel
theorem dX5_reached_58 : decode cX5_reached 58 = .ok (.lload_n 3, 1) := by decide +kernel
theorem dX5_reached_59 : decode cX5_reached 59 = .ok (.lreturn, 1) := by decide +kernel
set_option maxRecDepth 20000 in
theorem dX5_fewest_0 : decode cX5_fewest 0 = .ok (.aload_n 0, 1) := by decide +kernel
theorem dX5_fewest_1 : decode cX5_fewest 1 = .ok (.iload_n 1, 1) := by decide +kernel
theorem dX5_fewest_2 : decode cX5_fewest 2 = .ok (.invokevirtual 115, 3) := by decide +kernel
theorem dX5_fewest_5 : decode cX5_fewest 5 = .ok (.ifCond .eq 10, 3) := by decide +kernel
theorem dX5_fewest_8 : decode cX5_fewest 8 = .ok (.iload_n 2, 1) := by decide +kernel
theorem dX5_fewest_9 : decode cX5_fewest 9 = .ok (.invokestatic 108, 3) := by decide +kernel
theorem dX5_fewest_12 : decode cX5_fewest 12 = .ok (.ifCond .ne 6, 3) := by decide +kernel
theorem dX5_fewest_15 : decode cX5_fewest 15 = .ok (.bipush (-2), 2) := by decide +kernel
theorem dX5_fewest_17 : decode cX5_fewest 17 = .ok (.ireturn, 1) := by decide +kernel
theorem dX5_fewest_18 : decode cX5_fewest 18 = .ok (.lconst 1, 1) := by decide +kernel
theorem dX5_fewest_19 : decode cX5_fewest 19 = .ok (.aload_n 0, 1) := by decide +kernel
theorem dX5_fewest_20 : decode cX5_fewest 20 = .ok (.getfield 10, 3) := by decide +kernel
theorem dX5_fewest_23 : decode cX5_fewest 23 = .ok (.getfield 98, 3) := by decide +kernel
theorem dX5_fewest_26 : decode cX5_fewest 26 = .ok (.iload_n 1, 1) := by decide +kernel
theorem dX5_fewest_27 : decode cX5_fewest 27 = .ok (.iaload, 1) := by decide +kernel
theorem dX5_fewest_28 : decode cX5_fewest 28 = .ok (.lshl, 1) := by decide +kernel
theorem dX5_fewest_29 : decode cX5_fewest 29 = .ok (.lstore_n 3, 1) := by decide +kernel
theorem dX5_fewest_30 : decode cX5_fewest 30 = .ok (.iconst 0, 1) := by decide +kernel
theorem dX5_fewest_31 : decode cX5_fewest 31 = .ok (.istore 5, 2) := by decide +kernel
theorem dX5_fewest_33 : decode cX5_fewest 33 = .ok (.iload 5, 2) := by decide +kernel
theorem dX5_fewest_35 : decode cX5_fewest 35 = .ok (.bipush 63, 2) := by decide +kernel
theorem dX5_fewest_37 : decode cX5_fewest 37 = .ok (.if_icmp .gt 30, 3) := by decide +kernel
theorem dX5_fewest_40 : decode cX5_fewest 40 = .ok (.lload_n 3, 1) := by decide +kernel
theorem dX5_fewest_41 : decode cX5_fewest 41 = .ok (.iload_n 2, 1) := by decide +kernel
theorem dX5_fewest_42 : decode cX5_fewest 42 = .ok (.invokestatic 190, 3) := by decide +kernel
theorem dX5_fewest_45 : decode cX5_fewest 45 = .ok (.ifCond .eq 6, 3) := by decide +kernel
theorem dX5_fewest_48 : decode cX5_fewest 48 = .ok (.iload 5, 2) := by decide +kernel
theorem dX5_fewest_50 : decode cX5_fewest 50 = .ok (.ireturn, 1) := by decide +kernel
theorem dX5_fewest_51 : decode cX5_fewest 51 = .ok (.aload_n 0, 1) := by decide +kernel
theorem dX5_fewest_52 : decode cX5_fewest 52 = .ok (.getfield 10, 3) := by decide +kernel
theorem dX5_fewest_55 : decode cX5_fewest 55 = .ok (.iload_n 1, 1) := by decide +kernel
theorem dX5_fewest_56 : decode cX5_fewest 56 = .ok (.lload_n 3, 1) := by decide +kernel
theorem dX5_fewest_57 : decode cX5_fewest 57 = .ok (.invokevirtual 186, 3) := by decide +kernel
theorem dX5_fewest_60 : decode cX5_fewest 60 = .ok (.lstore_n 3, 1) := by decide +kernel
theorem dX5_fewest_61 : decode cX5_fewest 61 = .ok (.iinc 5 1, 3) := by decide +kernel
theorem dX5_fewest_64 : decode cX5_fewest 64 = .ok (.goto (-31), 3) := by decide +kernel
theorem dX5_fewest_67 : decode cX5_fewest 67 = .ok (.iconst (-1), 1) := by decide +kernel
theorem dX5_fewest_68 : decode cX5_fewest 68 = .ok (.ireturn, 1) := by decide +kernel
set_option maxRecDepth 20000 in
theorem dX5_best_0 : decode cX5_best 0 = .ok (.iload_n 1, 1) := by decide +kernel
theorem dX5_best_1 : decode cX5_best 1 = .ok (.iconst 2, 1) := by decide +kernel
theorem dX5_best_2 : decode cX5_best 2 = .ok (.invokestatic 104, 3) := by decide +kernel
theorem dX5_best_5 : decode cX5_best 5 = .ok (.ifCond .eq 22, 3) := by decide +kernel
theorem dX5_best_8 : decode cX5_best 8 = .ok (.iload_n 2, 1) := by decide +kernel
theorem dX5_best_9 : decode cX5_best 9 = .ok (.iconst 1, 1) := by decide +kernel
theorem dX5_best_10 : decode cX5_best 10 = .ok (.if_icmp .lt 17, 3) := by decide +kernel
theorem dX5_best_13 : decode cX5_best 13 = .ok (.iload_n 2, 1) := by decide +kernel
theorem dX5_best_14 : decode cX5_best 14 = .ok (.bipush 20, 2) := by decide +kernel
theorem dX5_best_16 : decode cX5_best 16 = .ok (.if_icmp .gt 11, 3) := by decide +kernel
theorem dX5_best_19 : decode cX5_best 19 = .ok (.iload_n 3, 1) := by decide +kernel
theorem dX5_best_20 : decode cX5_best 20 = .ok (.iconst 5, 1) := by decide +kernel
theorem dX5_best_21 : decode cX5_best 21 = .ok (.invokestatic 104, 3) := by decide +kernel
theorem dX5_best_24 : decode cX5_best 24 = .ok (.ifCond .ne 6, 3) := by decide +kernel
theorem dX5_best_27 : decode cX5_best 27 = .ok (.bipush (-2), 2) := by decide +kernel
theorem dX5_best_29 : decode cX5_best 29 = .ok (.ireturn, 1) := by decide +kernel
theorem dX5_best_30 : decode cX5_best 30 = .ok (.aload_n 0, 1) := by decide +kernel
theorem dX5_best_31 : decode cX5_best 31 = .ok (.getfield 19, 3) := by decide +kernel
theorem dX5_best_34 : decode cX5_best 34 = .ok (.aload_n 0, 1) := by decide +kernel
theorem dX5_best_35 : decode cX5_best 35 = .ok (.getfield 10, 3) := by decide +kernel
theorem dX5_best_38 : decode cX5_best 38 = .ok (.invokevirtual 179, 3) := by decide +kernel
theorem dX5_best_41 : decode cX5_best 41 = .ok (.aload_n 0, 1) := by decide +kernel
theorem dX5_best_42 : decode cX5_best 42 = .ok (.getfield 28, 3) := by decide +kernel
theorem dX5_best_45 : decode cX5_best 45 = .ok (.aload_n 0, 1) := by decide +kernel
theorem dX5_best_46 : decode cX5_best 46 = .ok (.getfield 19, 3) := by decide +kernel
theorem dX5_best_49 : decode cX5_best 49 = .ok (.iload_n 2, 1) := by decide +kernel
theorem dX5_best_50 : decode cX5_best 50 = .ok (.iconst (-1), 1) := by decide +kernel
theorem dX5_best_51 : decode cX5_best 51 = .ok (.invokevirtual 175, 3) := by decide +kernel
theorem dX5_best_54 : decode cX5_best 54 = .ok (.pop, 1) := by decide +kernel
theorem dX5_best_55 : decode cX5_best 55 = .ok (.iconst (-1), 1) := by decide +kernel
theorem dX5_best_56 : decode cX5_best 56 = .ok (.istore 4, 2) := by decide +kernel
theorem dX5_best_58 : decode cX5_best 58 = .ok (.aload_n 0, 1) := by decide +kernel
theorem dX5_best_59 : decode cX5_best 59 = .ok (.getfield 19, 3) := by decide +kernel
theorem dX5_best_62 : decode cX5_best 62 = .ok (.iload_n 1, 1) := by decide +kernel
theorem dX5_best_63 : decode cX5_best 63 = .ok (.invokevirtual 183, 3) := by decide +kernel
theorem dX5_best_66 : decode cX5_best 66 = .ok (.istore 5, 2) := by decide +kernel
theorem dX5_best_68 : decode cX5_best 68 = .ok (.iload_n 3, 1) := by decide +kernel
theorem dX5_best_69 : decode cX5_best 69 = .ok (.iconst 2, 1) := by decide +kernel
theorem dX5_best_70 : decode cX5_best 70 = .ok (.if_icmp .ge 13, 3) := by decide +kernel
theorem dX5_best_73 : decode cX5_best 73 = .ok (.aload_n 0, 1) := by decide +kernel
theorem dX5_best_74 : decode cX5_best 74 = .ok (.getfield 10, 3) := by decide +kernel
theorem dX5_best_77 : decode cX5_best 77 = .ok (.getfield 124, 3) := by decide +kernel
theorem dX5_best_80 : decode cX5_best 80 = .ok (.goto 5, 3) := by decide +kernel
theorem dX5_best_83 : decode cX5_best 83 = .ok (.bipush 64, 2) := by decide +kernel
theorem dX5_best_85 : decode cX5_best 85 = .ok (.istore 6, 2) := by decide +kernel
theorem dX5_best_87 : decode cX5_best 87 = .ok (.iconst 0, 1) := by decide +kernel
theorem dX5_best_88 : decode cX5_best 88 = .ok (.istore 7, 2) := by decide +kernel
theorem dX5_best_90 : decode cX5_best 90 = .ok (.iload 7, 2) := by decide +kernel
theorem dX5_best_92 : decode cX5_best 92 = .ok (.iload 6, 2) := by decide +kernel
theorem dX5_best_94 : decode cX5_best 94 = .ok (.if_icmp .ge 65, 3) := by decide +kernel
theorem dX5_best_97 : decode cX5_best 97 = .ok (.iload_n 3, 1) := by decide +kernel
theorem dX5_best_98 : decode cX5_best 98 = .ok (.iconst 2, 1) := by decide +kernel
theorem dX5_best_99 : decode cX5_best 99 = .ok (.if_icmp .ge 14, 3) := by decide +kernel
theorem dX5_best_102 : decode cX5_best 102 = .ok (.aload_n 0, 1) := by decide +kernel
theorem dX5_best_103 : decode cX5_best 103 = .ok (.iload_n 1, 1) := by decide +kernel
theorem dX5_best_104 : decode cX5_best 104 = .ok (.iload_n 2, 1) := by decide +kernel
theorem dX5_best_105 : decode cX5_best 105 = .ok (.iload 7, 2) := by decide +kernel
theorem dX5_best_107 : decode cX5_best 107 = .ok (.invokevirtual 194, 3) := by decide +kernel
theorem dX5_best_110 : decode cX5_best 110 = .ok (.goto 26, 3) := by decide +kernel
theorem dX5_best_113 : decode cX5_best 113 = .ok (.iload_n 3, 1) := by decide +kernel
theorem dX5_best_114 : decode cX5_best 114 = .ok (.iconst 4, 1) := by decide +kernel
theorem dX5_best_115 : decode cX5_best 115 = .ok (.if_icmp .ge 13, 3) := by decide +kernel
theorem dX5_best_118 : decode cX5_best 118 = .ok (.aload_n 0, 1) := by decide +kernel
theorem dX5_best_119 : decode cX5_best 119 = .ok (.iload_n 1, 1) := by decide +kernel
theorem dX5_best_120 : decode cX5_best 120 = .ok (.iload 7, 2) := by decide +kernel
theorem dX5_best_122 : decode cX5_best 122 = .ok (.invokevirtual 197, 3) := by decide +kernel
theorem dX5_best_125 : decode cX5_best 125 = .ok (.goto 11, 3) := by decide +kernel
theorem dX5_best_128 : decode cX5_best 128 = .ok (.aload_n 0, 1) := by decide +kernel
theorem dX5_best_129 : decode cX5_best 129 = .ok (.iload_n 1, 1) := by decide +kernel
theorem dX5_best_130 : decode cX5_best 130 = .ok (.iload_n 2, 1) := by decide +kernel
theorem dX5_best_131 : decode cX5_best 131 = .ok (.iload 7, 2) := by decide +kernel
theorem dX5_best_133 : decode cX5_best 133 = .ok (.invokevirtual 200, 3) := by decide +kernel
theorem dX5_best_136 : decode cX5_best 136 = .ok (.istore 8, 2) := by decide +kernel
theorem dX5_best_138 : decode cX5_best 138 = .ok (.iload 8, 2) := by decide +kernel
theorem dX5_best_140 : decode cX5_best 140 = .ok (.iload 5, 2) := by decide +kernel
theorem dX5_best_142 : decode cX5_best 142 = .ok (.if_icmp .le 11, 3) := by decide +kernel
theorem dX5_best_145 : decode cX5_best 145 = .ok (.iload 8, 2) := by decide +kernel
theorem dX5_best_147 : decode cX5_best 147 = .ok (.istore 5, 2) := by decide +kernel
theorem dX5_best_149 : decode cX5_best 149 = .ok (.iload 7, 2) := by decide +kernel
theorem dX5_best_151 : decode cX5_best 151 = .ok (.istore 4, 2) := by decide +kernel
theorem dX5_best_153 : decode cX5_best 153 = .ok (.iinc 7 1, 3) := by decide +kernel
theorem dX5_best_156 : decode cX5_best 156 = .ok (.goto (-66), 3) := by decide +kernel
theorem dX5_best_159 : decode cX5_best 159 = .ok (.iload_n 3, 1) := by decide +kernel
theorem dX5_best_160 : decode cX5_best 160 = .ok (.iconst 2, 1) := by decide +kernel
theorem dX5_best_161 : decode cX5_best 161 = .ok (.irem, 1) := by decide +kernel
theorem dX5_best_162 : decode cX5_best 162 = .ok (.ifCond .ne 8, 3) := by decide +kernel
theorem dX5_best_165 : decode cX5_best 165 = .ok (.iload 4, 2) := by decide +kernel
theorem dX5_best_167 : decode cX5_best 167 = .ok (.goto 5, 3) := by decide +kernel
theorem dX5_best_170 : decode cX5_best 170 = .ok (.iload 5, 2) := by decide +kernel
theorem dX5_best_172 : decode cX5_best 172 = .ok (.ireturn, 1) := by decide +kernel
set_option maxRecDepth 20000 in
theorem dX5_foundWithOneStill_0 : decode cX5_foundWithOneStill 0 = .ok (.aload_n 0, 1) := by decide +kernel
theorem dX5_foundWithOneStill_1 : decode cX5_foundWithOneStill 1 = .ok (.getfield 16, 3) := by decide +kernel
theorem dX5_foundWithOneStill_4 : decode cX5_foundWithOneStill 4 = .ok (.aload_n 0, 1) := by decide +kernel
theorem dX5_foundWithOneStill_5 : decode cX5_foundWithOneStill 5 = .ok (.getfield 10, 3) := by decide +kernel
theorem dX5_foundWithOneStill_8 : decode cX5_foundWithOneStill 8 = .ok (.invokevirtual 179, 3) := by decide +kernel
theorem dX5_foundWithOneStill_11 : decode cX5_foundWithOneStill 11 = .ok (.aload_n 0, 1) := by decide +kernel
theorem dX5_foundWithOneStill_12 : decode cX5_foundWithOneStill 12 = .ok (.getfield 28, 3) := by decide +kernel
theorem dX5_foundWithOneStill_15 : decode cX5_foundWithOneStill 15 = .ok (.aload_n 0, 1) := by decide +kernel
theorem dX5_foundWithOneStill_16 : decode cX5_foundWithOneStill 16 = .ok (.getfield 16, 3) := by decide +kernel
theorem dX5_foundWithOneStill_19 : decode cX5_foundWithOneStill 19 = .ok (.iload_n 2, 1) := by decide +kernel
theorem dX5_foundWithOneStill_20 : decode cX5_foundWithOneStill 20 = .ok (.iload_n 3, 1) := by decide +kernel
theorem dX5_foundWithOneStill_21 : decode cX5_foundWithOneStill 21 = .ok (.invokevirtual 175, 3) := by decide +kernel
theorem dX5_foundWithOneStill_24 : decode cX5_foundWithOneStill 24 = .ok (.pop, 1) := by decide +kernel
theorem dX5_foundWithOneStill_25 : decode cX5_foundWithOneStill 25 = .ok (.aload_n 0, 1) := by decide +kernel
theorem dX5_foundWithOneStill_26 : decode cX5_foundWithOneStill 26 = .ok (.getfield 16, 3) := by decide +kernel
theorem dX5_foundWithOneStill_29 : decode cX5_foundWithOneStill 29 = .ok (.iload_n 1, 1) := by decide +kernel
theorem dX5_foundWithOneStill_30 : decode cX5_foundWithOneStill 30 = .ok (.invokevirtual 183, 3) := by decide +kernel
theorem dX5_foundWithOneStill_33 : decode cX5_foundWithOneStill 33 = .ok (.ireturn, 1) := by decide +kernel
set_option maxRecDepth 20000 in
theorem dX5_foundWithRed_0 : decode cX5_foundWithRed 0 = .ok (.aload_n 0, 1) := by decide +kernel
theorem dX5_foundWithRed_1 : decode cX5_foundWithRed 1 = .ok (.getfield 10, 3) := by decide +kernel
theorem dX5_foundWithRed_4 : decode cX5_foundWithRed 4 = .ok (.iload_n 2, 1) := by decide +kernel
theorem dX5_foundWithRed_5 : decode cX5_foundWithRed 5 = .ok (.invokevirtual 136, 3) := by decide +kernel
theorem dX5_foundWithRed_8 : decode cX5_foundWithRed 8 = .ok (.ifCond .ne 14, 3) := by decide +kernel
theorem dX5_foundWithRed_11 : decode cX5_foundWithRed 11 = .ok (.aload_n 0, 1) := by decide +kernel
theorem dX5_foundWithRed_12 : decode cX5_foundWithRed 12 = .ok (.getfield 10, 3) := by decide +kernel
theorem dX5_foundWithRed_15 : decode cX5_foundWithRed 15 = .ok (.iload_n 2, 1) := by decide +kernel
theorem dX5_foundWithRed_16 : decode cX5_foundWithRed 16 = .ok (.invokevirtual 118, 3) := by decide +kernel
theorem dX5_foundWithRed_19 : decode cX5_foundWithRed 19 = .ok (.ifCond .eq 5, 3) := by decide +kernel
theorem dX5_foundWithRed_22 : decode cX5_foundWithRed 22 = .ok (.iconst (-1), 1) := by decide +kernel
theorem dX5_foundWithRed_23 : decode cX5_foundWithRed 23 = .ok (.ireturn, 1) := by decide +kernel
theorem dX5_foundWithRed_24 : decode cX5_foundWithRed 24 = .ok (.aload_n 0, 1) := by decide +kernel
theorem dX5_foundWithRed_25 : decode cX5_foundWithRed 25 = .ok (.getfield 19, 3) := by decide +kernel
theorem dX5_foundWithRed_28 : decode cX5_foundWithRed 28 = .ok (.aload_n 0, 1) := by decide +kernel
theorem dX5_foundWithRed_29 : decode cX5_foundWithRed 29 = .ok (.getfield 10, 3) := by decide +kernel
theorem dX5_foundWithRed_32 : decode cX5_foundWithRed 32 = .ok (.getfield 85, 3) := by decide +kernel
theorem dX5_foundWithRed_35 : decode cX5_foundWithRed 35 = .ok (.lconst 1, 1) := by decide +kernel
theorem dX5_foundWithRed_36 : decode cX5_foundWithRed 36 = .ok (.iload_n 2, 1) := by decide +kernel
theorem dX5_foundWithRed_37 : decode cX5_foundWithRed 37 = .ok (.lshl, 1) := by decide +kernel
theorem dX5_foundWithRed_38 : decode cX5_foundWithRed 38 = .ok (.lor, 1) := by decide +kernel
theorem dX5_foundWithRed_39 : decode cX5_foundWithRed 39 = .ok (.putfield 85, 3) := by decide +kernel
theorem dX5_foundWithRed_42 : decode cX5_foundWithRed 42 = .ok (.aload_n 0, 1) := by decide +kernel
theorem dX5_foundWithRed_43 : decode cX5_foundWithRed 43 = .ok (.getfield 19, 3) := by decide +kernel
theorem dX5_foundWithRed_46 : decode cX5_foundWithRed 46 = .ok (.iload_n 1, 1) := by decide +kernel
theorem dX5_foundWithRed_47 : decode cX5_foundWithRed 47 = .ok (.invokevirtual 183, 3) := by decide +kernel
theorem dX5_foundWithRed_50 : decode cX5_foundWithRed 50 = .ok (.ireturn, 1) := by decide +kernel
set_option maxRecDepth 20000 in
theorem dX5_foundWithHollow_0 : decode cX5_foundWithHollow 0 = .ok (.aload_n 0, 1) := by decide +kernel
theorem dX5_foundWithHollow_1 : decode cX5_foundWithHollow 1 = .ok (.getfield 10, 3) := by decide +kernel
theorem dX5_foundWithHollow_4 : decode cX5_foundWithHollow 4 = .ok (.iload_n 3, 1) := by decide +kernel
theorem dX5_foundWithHollow_5 : decode cX5_foundWithHollow 5 = .ok (.invokevirtual 118, 3) := by decide +kernel
theorem dX5_foundWithHollow_8 : decode cX5_foundWithHollow 8 = .ok (.ifCond .ne 14, 3) := by decide +kernel
theorem dX5_foundWithHollow_11 : decode cX5_foundWithHollow 11 = .ok (.aload_n 0, 1) := by decide +kernel
theorem dX5_foundWithHollow_12 : decode cX5_foundWithHollow 12 = .ok (.getfield 10, 3) := by decide +kernel
theorem dX5_foundWithHollow_15 : decode cX5_foundWithHollow 15 = .ok (.iload_n 3, 1) := by decide +kernel
theorem dX5_foundWithHollow_16 : decode cX5_foundWithHollow 16 = .ok (.invokevirtual 111, 3) := by decide +kernel
theorem dX5_foundWithHollow_19 : decode cX5_foundWithHollow 19 = .ok (.ifCond .eq 5, 3) := by decide +kernel
theorem dX5_foundWithHollow_22 : decode cX5_foundWithHollow 22 = .ok (.iconst (-1), 1) := by decide +kernel
theorem dX5_foundWithHollow_23 : decode cX5_foundWithHollow 23 = .ok (.ireturn, 1) := by decide +kernel
theorem dX5_foundWithHollow_24 : decode cX5_foundWithHollow 24 = .ok (.aload_n 0, 1) := by decide +kernel
theorem dX5_foundWithHollow_25 : decode cX5_foundWithHollow 25 = .ok (.getfield 16, 3) := by decide +kernel
theorem dX5_foundWithHollow_28 : decode cX5_foundWithHollow 28 = .ok (.aload_n 0, 1) := by decide +kernel
theorem dX5_foundWithHollow_29 : decode cX5_foundWithHollow 29 = .ok (.getfield 10, 3) := by decide +kernel
theorem dX5_foundWithHollow_32 : decode cX5_foundWithHollow 32 = .ok (.invokevirtual 179, 3) := by decide +kernel
theorem dX5_foundWithHollow_35 : decode cX5_foundWithHollow 35 = .ok (.aload_n 0, 1) := by decide +kernel
theorem dX5_foundWithHollow_36 : decode cX5_foundWithHollow 36 = .ok (.getfield 16, 3) := by decide +kernel
theorem dX5_foundWithHollow_39 : decode cX5_foundWithHollow 39 = .ok (.dup, 1) := by decide +kernel
theorem dX5_foundWithHollow_40 : decode cX5_foundWithHollow 40 = .ok (.getfield 91, 3) := by decide +kernel
theorem dX5_foundWithHollow_43 : decode cX5_foundWithHollow 43 = .ok (.lconst 1, 1) := by decide +kernel
theorem dX5_foundWithHollow_44 : decode cX5_foundWithHollow 44 = .ok (.iload_n 3, 1) := by decide +kernel
theorem dX5_foundWithHollow_45 : decode cX5_foundWithHollow 45 = .ok (.lshl, 1) := by decide +kernel
theorem dX5_foundWithHollow_46 : decode cX5_foundWithHollow 46 = .ok (.lor, 1) := by decide +kernel
theorem dX5_foundWithHollow_47 : decode cX5_foundWithHollow 47 = .ok (.putfield 91, 3) := by decide +kernel
theorem dX5_foundWithHollow_50 : decode cX5_foundWithHollow 50 = .ok (.aload_n 0, 1) := by decide +kernel
theorem dX5_foundWithHollow_51 : decode cX5_foundWithHollow 51 = .ok (.getfield 28, 3) := by decide +kernel
theorem dX5_foundWithHollow_54 : decode cX5_foundWithHollow 54 = .ok (.aload_n 0, 1) := by decide +kernel
theorem dX5_foundWithHollow_55 : decode cX5_foundWithHollow 55 = .ok (.getfield 16, 3) := by decide +kernel
theorem dX5_foundWithHollow_58 : decode cX5_foundWithHollow 58 = .ok (.iload_n 2, 1) := by decide +kernel
theorem dX5_foundWithHollow_59 : decode cX5_foundWithHollow 59 = .ok (.iconst (-1), 1) := by decide +kernel
theorem dX5_foundWithHollow_60 : decode cX5_foundWithHollow 60 = .ok (.invokevirtual 175, 3) := by decide +kernel
theorem dX5_foundWithHollow_63 : decode cX5_foundWithHollow 63 = .ok (.pop, 1) := by decide +kernel
theorem dX5_foundWithHollow_64 : decode cX5_foundWithHollow 64 = .ok (.aload_n 0, 1) := by decide +kernel
theorem dX5_foundWithHollow_65 : decode cX5_foundWithHollow 65 = .ok (.getfield 16, 3) := by decide +kernel
theorem dX5_foundWithHollow_68 : decode cX5_foundWithHollow 68 = .ok (.iload_n 1, 1) := by decide +kernel
theorem dX5_foundWithHollow_69 : decode cX5_foundWithHollow 69 = .ok (.invokevirtual 183, 3) := by decide +kernel
theorem dX5_foundWithHollow_72 : decode cX5_foundWithHollow 72 = .ok (.ireturn, 1) := by decide +kernel
set_option maxRecDepth 20000 in
theorem dX5_mean_0 : decode cX5_mean 0 = .ok (.iload_n 1, 1) := by decide +kernel
theorem dX5_mean_1 : decode cX5_mean 1 = .ok (.iconst 1, 1) := by decide +kernel
theorem dX5_mean_2 : decode cX5_mean 2 = .ok (.invokestatic 104, 3) := by decide +kernel
theorem dX5_mean_5 : decode cX5_mean 5 = .ok (.ifCond .eq 14, 3) := by decide +kernel
theorem dX5_mean_8 : decode cX5_mean 8 = .ok (.aload_n 0, 1) := by decide +kernel
theorem dX5_mean_9 : decode cX5_mean 9 = .ok (.getfield 10, 3) := by decide +kernel
theorem dX5_mean_12 : decode cX5_mean 12 = .ok (.getfield 124, 3) := by decide +kernel
theorem dX5_mean_15 : decode cX5_mean 15 = .ok (.iconst 1, 1) := by decide +kernel
theorem dX5_mean_16 : decode cX5_mean 16 = .ok (.if_icmp .ge 7, 3) := by decide +kernel
theorem dX5_mean_19 : decode cX5_mean 19 = .ok (.ldc2_w 160, 3) := by decide +kernel
theorem dX5_mean_22 : decode cX5_mean 22 = .ok (.lreturn, 1) := by decide +kernel
theorem dX5_mean_23 : decode cX5_mean 23 = .ok (.iconst 0, 1) := by decide +kernel
theorem dX5_mean_24 : decode cX5_mean 24 = .ok (.istore_n 2, 1) := by decide +kernel
theorem dX5_mean_25 : decode cX5_mean 25 = .ok (.iconst 0, 1) := by decide +kernel
theorem dX5_mean_26 : decode cX5_mean 26 = .ok (.istore_n 3, 1) := by decide +kernel
theorem dX5_mean_27 : decode cX5_mean 27 = .ok (.iload_n 3, 1) := by decide +kernel
theorem dX5_mean_28 : decode cX5_mean 28 = .ok (.aload_n 0, 1) := by decide +kernel
theorem dX5_mean_29 : decode cX5_mean 29 = .ok (.getfield 10, 3) := by decide +kernel
theorem dX5_mean_32 : decode cX5_mean 32 = .ok (.getfield 124, 3) := by decide +kernel
theorem dX5_mean_35 : decode cX5_mean 35 = .ok (.if_icmp .ge 21, 3) := by decide +kernel
theorem dX5_mean_38 : decode cX5_mean 38 = .ok (.iload_n 2, 1) := by decide +kernel
theorem dX5_mean_39 : decode cX5_mean 39 = .ok (.aload_n 0, 1) := by decide +kernel
theorem dX5_mean_40 : decode cX5_mean 40 = .ok (.getfield 10, 3) := by decide +kernel
theorem dX5_mean_43 : decode cX5_mean 43 = .ok (.getfield 101, 3) := by decide +kernel
theorem dX5_mean_46 : decode cX5_mean 46 = .ok (.iload_n 3, 1) := by decide +kernel
theorem dX5_mean_47 : decode cX5_mean 47 = .ok (.iaload, 1) := by decide +kernel
theorem dX5_mean_48 : decode cX5_mean 48 = .ok (.iadd, 1) := by decide +kernel
theorem dX5_mean_49 : decode cX5_mean 49 = .ok (.istore_n 2, 1) := by decide +kernel
theorem dX5_mean_50 : decode cX5_mean 50 = .ok (.iinc 3 1, 3) := by decide +kernel
theorem dX5_mean_53 : decode cX5_mean 53 = .ok (.goto (-26), 3) := by decide +kernel
theorem dX5_mean_56 : decode cX5_mean 56 = .ok (.iload_n 2, 1) := by decide +kernel
theorem dX5_mean_57 : decode cX5_mean 57 = .ok (.aload_n 0, 1) := by decide +kernel
theorem dX5_mean_58 : decode cX5_mean 58 = .ok (.getfield 10, 3) := by decide +kernel
theorem dX5_mean_61 : decode cX5_mean 61 = .ok (.getfield 124, 3) := by decide +kernel
theorem dX5_mean_64 : decode cX5_mean 64 = .ok (.iload_n 1, 1) := by decide +kernel
theorem dX5_mean_65 : decode cX5_mean 65 = .ok (.invokestatic 203, 3) := by decide +kernel
theorem dX5_mean_68 : decode cX5_mean 68 = .ok (.lreturn, 1) := by decide +kernel
set_option maxRecDepth 20000 in
theorem dX5_tells_0 : decode cX5_tells 0 = .ok (.aload_n 0, 1) := by decide +kernel
theorem dX5_tells_1 : decode cX5_tells 1 = .ok (.iload_n 1, 1) := by decide +kernel
theorem dX5_tells_2 : decode cX5_tells 2 = .ok (.invokevirtual 207, 3) := by decide +kernel
theorem dX5_tells_5 : decode cX5_tells 5 = .ok (.astore 4, 2) := by decide +kernel
theorem dX5_tells_7 : decode cX5_tells 7 = .ok (.aload 4, 2) := by decide +kernel
theorem dX5_tells_9 : decode cX5_tells 9 = .ok (.ifnull 20, 3) := by decide +kernel
theorem dX5_tells_12 : decode cX5_tells 12 = .ok (.aload_n 0, 1) := by decide +kernel
theorem dX5_tells_13 : decode cX5_tells 13 = .ok (.iload_n 2, 1) := by decide +kernel
theorem dX5_tells_14 : decode cX5_tells 14 = .ok (.invokevirtual 115, 3) := by decide +kernel
theorem dX5_tells_17 : decode cX5_tells 17 = .ok (.ifCond .eq 12, 3) := by decide +kernel
theorem dX5_tells_20 : decode cX5_tells 20 = .ok (.iload_n 3, 1) := by decide +kernel
theorem dX5_tells_21 : decode cX5_tells 21 = .ok (.bipush 6, 2) := by decide +kernel
theorem dX5_tells_23 : decode cX5_tells 23 = .ok (.invokestatic 104, 3) := by decide +kernel
theorem dX5_tells_26 : decode cX5_tells 26 = .ok (.ifCond .ne 6, 3) := by decide +kernel
theorem dX5_tells_29 : decode cX5_tells 29 = .ok (.bipush (-2), 2) := by decide +kernel
theorem dX5_tells_31 : decode cX5_tells 31 = .ok (.ireturn, 1) := by decide +kernel
theorem dX5_tells_32 : decode cX5_tells 32 = .ok (.aload 4, 2) := by decide +kernel
theorem dX5_tells_34 : decode cX5_tells 34 = .ok (.getfield 211, 3) := by decide +kernel
theorem dX5_tells_37 : decode cX5_tells 37 = .ok (.iconst (-1), 1) := by decide +kernel
theorem dX5_tells_38 : decode cX5_tells 38 = .ok (.if_icmp .ne 6, 3) := by decide +kernel
theorem dX5_tells_41 : decode cX5_tells 41 = .ok (.bipush (-11), 2) := by decide +kernel
theorem dX5_tells_43 : decode cX5_tells 43 = .ok (.ireturn, 1) := by decide +kernel
theorem dX5_tells_44 : decode cX5_tells 44 = .ok (.aload 4, 2) := by decide +kernel
theorem dX5_tells_46 : decode cX5_tells 46 = .ok (.getfield 214, 3) := by decide +kernel
theorem dX5_tells_49 : decode cX5_tells 49 = .ok (.bipush 20, 2) := by decide +kernel
theorem dX5_tells_51 : decode cX5_tells 51 = .ok (.if_icmp .le 6, 3) := by decide +kernel
theorem dX5_tells_54 : decode cX5_tells 54 = .ok (.bipush (-2), 2) := by decide +kernel
theorem dX5_tells_56 : decode cX5_tells 56 = .ok (.ireturn, 1) := by decide +kernel
theorem dX5_tells_57 : decode cX5_tells 57 = .ok (.iload_n 3, 1) := by decide +kernel
theorem dX5_tells_58 : decode cX5_tells 58 = .ok (.ifCond .ne 22, 3) := by decide +kernel
theorem dX5_tells_61 : decode cX5_tells 61 = .ok (.aload_n 0, 1) := by decide +kernel
theorem dX5_tells_62 : decode cX5_tells 62 = .ok (.getfield 16, 3) := by decide +kernel
theorem dX5_tells_65 : decode cX5_tells 65 = .ok (.aload_n 0, 1) := by decide +kernel
theorem dX5_tells_66 : decode cX5_tells 66 = .ok (.getfield 10, 3) := by decide +kernel
theorem dX5_tells_69 : decode cX5_tells 69 = .ok (.invokevirtual 179, 3) := by decide +kernel
theorem dX5_tells_72 : decode cX5_tells 72 = .ok (.aload_n 0, 1) := by decide +kernel
theorem dX5_tells_73 : decode cX5_tells 73 = .ok (.aload 4, 2) := by decide +kernel
theorem dX5_tells_75 : decode cX5_tells 75 = .ok (.iload_n 2, 1) := by decide +kernel
theorem dX5_tells_76 : decode cX5_tells 76 = .ok (.invokevirtual 215, 3) := by decide +kernel
theorem dX5_tells_79 : decode cX5_tells 79 = .ok (.ireturn, 1) := by decide +kernel
theorem dX5_tells_80 : decode cX5_tells 80 = .ok (.iload_n 3, 1) := by decide +kernel
theorem dX5_tells_81 : decode cX5_tells 81 = .ok (.iconst 3, 1) := by decide +kernel
theorem dX5_tells_82 : decode cX5_tells 82 = .ok (.if_icmp .eq 8, 3) := by decide +kernel
theorem dX5_tells_85 : decode cX5_tells 85 = .ok (.iload_n 3, 1) := by decide +kernel
theorem dX5_tells_86 : decode cX5_tells 86 = .ok (.iconst 4, 1) := by decide +kernel
theorem dX5_tells_87 : decode cX5_tells 87 = .ok (.if_icmp .ne 14, 3) := by decide +kernel
theorem dX5_tells_90 : decode cX5_tells 90 = .ok (.aload_n 0, 1) := by decide +kernel
theorem dX5_tells_91 : decode cX5_tells 91 = .ok (.aload 4, 2) := by decide +kernel
theorem dX5_tells_93 : decode cX5_tells 93 = .ok (.iload_n 2, 1) := by decide +kernel
theorem dX5_tells_94 : decode cX5_tells 94 = .ok (.iload_n 3, 1) := by decide +kernel
theorem dX5_tells_95 : decode cX5_tells 95 = .ok (.invokevirtual 219, 3) := by decide +kernel
theorem dX5_tells_98 : decode cX5_tells 98 = .ok (.goto 11, 3) := by decide +kernel
theorem dX5_tells_101 : decode cX5_tells 101 = .ok (.aload_n 0, 1) := by decide +kernel
theorem dX5_tells_102 : decode cX5_tells 102 = .ok (.aload 4, 2) := by decide +kernel
theorem dX5_tells_104 : decode cX5_tells 104 = .ok (.iload_n 2, 1) := by decide +kernel
theorem dX5_tells_105 : decode cX5_tells 105 = .ok (.iload_n 3, 1) := by decide +kernel
theorem dX5_tells_106 : decode cX5_tells 106 = .ok (.invokevirtual 223, 3) := by decide +kernel
theorem dX5_tells_109 : decode cX5_tells 109 = .ok (.ireturn, 1) := by decide +kernel
set_option maxRecDepth 20000 in
theorem dX5_wearyTold_0 : decode cX5_wearyTold 0 = .ok (.iconst 0, 1) := by decide +kernel
theorem dX5_wearyTold_1 : decode cX5_wearyTold 1 = .ok (.istore 4, 2) := by decide +kernel
theorem dX5_wearyTold_3 : decode cX5_wearyTold 3 = .ok (.iconst (-1), 1) := by decide +kernel
theorem dX5_wearyTold_4 : decode cX5_wearyTold 4 = .ok (.istore 5, 2) := by decide +kernel
theorem dX5_wearyTold_6 : decode cX5_wearyTold 6 = .ok (.iconst 0, 1) := by decide +kernel
theorem dX5_wearyTold_7 : decode cX5_wearyTold 7 = .ok (.istore 6, 2) := by decide +kernel
theorem dX5_wearyTold_9 : decode cX5_wearyTold 9 = .ok (.iload 6, 2) := by decide +kernel
theorem dX5_wearyTold_11 : decode cX5_wearyTold 11 = .ok (.bipush 99, 2) := by decide +kernel
theorem dX5_wearyTold_13 : decode cX5_wearyTold 13 = .ok (.if_icmp .gt 59, 3) := by decide +kernel
theorem dX5_wearyTold_16 : decode cX5_wearyTold 16 = .ok (.aload_n 0, 1) := by decide +kernel
theorem dX5_wearyTold_17 : decode cX5_wearyTold 17 = .ok (.getfield 16, 3) := by decide +kernel
theorem dX5_wearyTold_20 : decode cX5_wearyTold 20 = .ok (.aload_n 0, 1) := by decide +kernel
theorem dX5_wearyTold_21 : decode cX5_wearyTold 21 = .ok (.getfield 10, 3) := by decide +kernel
theorem dX5_wearyTold_24 : decode cX5_wearyTold 24 = .ok (.invokevirtual 179, 3) := by decide +kernel
theorem dX5_wearyTold_27 : decode cX5_wearyTold 27 = .ok (.aload_n 0, 1) := by decide +kernel
theorem dX5_wearyTold_28 : decode cX5_wearyTold 28 = .ok (.getfield 16, 3) := by decide +kernel
theorem dX5_wearyTold_31 : decode cX5_wearyTold 31 = .ok (.getfield 101, 3) := by decide +kernel
theorem dX5_wearyTold_34 : decode cX5_wearyTold 34 = .ok (.iload_n 2, 1) := by decide +kernel
theorem dX5_wearyTold_35 : decode cX5_wearyTold 35 = .ok (.iload 6, 2) := by decide +kernel
theorem dX5_wearyTold_37 : decode cX5_wearyTold 37 = .ok (.iastore, 1) := by decide +kernel
theorem dX5_wearyTold_38 : decode cX5_wearyTold 38 = .ok (.aload_n 0, 1) := by decide +kernel
theorem dX5_wearyTold_39 : decode cX5_wearyTold 39 = .ok (.aload_n 1, 1) := by decide +kernel
theorem dX5_wearyTold_40 : decode cX5_wearyTold 40 = .ok (.iload_n 2, 1) := by decide +kernel
theorem dX5_wearyTold_41 : decode cX5_wearyTold 41 = .ok (.invokevirtual 215, 3) := by decide +kernel
theorem dX5_wearyTold_44 : decode cX5_wearyTold 44 = .ok (.iconst (-1), 1) := by decide +kernel
theorem dX5_wearyTold_45 : decode cX5_wearyTold 45 = .ok (.if_icmp .ne 21, 3) := by decide +kernel
theorem dX5_wearyTold_48 : decode cX5_wearyTold 48 = .ok (.iinc 4 1, 3) := by decide +kernel
theorem dX5_wearyTold_51 : decode cX5_wearyTold 51 = .ok (.iload 5, 2) := by decide +kernel
theorem dX5_wearyTold_53 : decode cX5_wearyTold 53 = .ok (.iconst (-1), 1) := by decide +kernel
theorem dX5_wearyTold_54 : decode cX5_wearyTold 54 = .ok (.if_icmp .ne 8, 3) := by decide +kernel
theorem dX5_wearyTold_57 : decode cX5_wearyTold 57 = .ok (.iload 6, 2) := by decide +kernel
theorem dX5_wearyTold_59 : decode cX5_wearyTold 59 = .ok (.goto 5, 3) := by decide +kernel
theorem dX5_wearyTold_62 : decode cX5_wearyTold 62 = .ok (.iload 5, 2) := by decide +kernel
theorem dX5_wearyTold_64 : decode cX5_wearyTold 64 = .ok (.istore 5, 2) := by decide +kernel
theorem dX5_wearyTold_66 : decode cX5_wearyTold 66 = .ok (.iinc 6 1, 3) := by decide +kernel
theorem dX5_wearyTold_69 : decode cX5_wearyTold 69 = .ok (.goto (-60), 3) := by decide +kernel
theorem dX5_wearyTold_72 : decode cX5_wearyTold 72 = .ok (.iload_n 3, 1) := by decide +kernel
theorem dX5_wearyTold_73 : decode cX5_wearyTold 73 = .ok (.iconst 3, 1) := by decide +kernel
theorem dX5_wearyTold_74 : decode cX5_wearyTold 74 = .ok (.if_icmp .ne 8, 3) := by decide +kernel
theorem dX5_wearyTold_77 : decode cX5_wearyTold 77 = .ok (.iload 4, 2) := by decide +kernel
theorem dX5_wearyTold_79 : decode cX5_wearyTold 79 = .ok (.goto 5, 3) := by decide +kernel
theorem dX5_wearyTold_82 : decode cX5_wearyTold 82 = .ok (.iload 5, 2) := by decide +kernel
theorem dX5_wearyTold_84 : decode cX5_wearyTold 84 = .ok (.ireturn, 1) := by decide +kernel
set_option maxRecDepth 20000 in
theorem dX5_bitsTold_0 : decode cX5_bitsTold 0 = .ok (.iconst 0, 1) := by decide +kernel
theorem dX5_bitsTold_1 : decode cX5_bitsTold 1 = .ok (.istore 4, 2) := by decide +kernel
theorem dX5_bitsTold_3 : decode cX5_bitsTold 3 = .ok (.iload_n 3, 1) := by decide +kernel
theorem dX5_bitsTold_4 : decode cX5_bitsTold 4 = .ok (.iconst 1, 1) := by decide +kernel
theorem dX5_bitsTold_5 : decode cX5_bitsTold 5 = .ok (.if_icmp .ne 8, 3) := by decide +kernel
theorem dX5_bitsTold_8 : decode cX5_bitsTold 8 = .ok (.bipush 6, 2) := by decide +kernel
theorem dX5_bitsTold_10 : decode cX5_bitsTold 10 = .ok (.goto 35, 3) := by decide +kernel
theorem dX5_bitsTold_13 : decode cX5_bitsTold 13 = .ok (.iload_n 3, 1) := by decide +kernel
theorem dX5_bitsTold_14 : decode cX5_bitsTold 14 = .ok (.iconst 2, 1) := by decide +kernel
theorem dX5_bitsTold_15 : decode cX5_bitsTold 15 = .ok (.if_icmp .ne 8, 3) := by decide +kernel
theorem dX5_bitsTold_18 : decode cX5_bitsTold 18 = .ok (.bipush 10, 2) := by decide +kernel
theorem dX5_bitsTold_20 : decode cX5_bitsTold 20 = .ok (.goto 25, 3) := by decide +kernel
theorem dX5_bitsTold_23 : decode cX5_bitsTold 23 = .ok (.iload_n 3, 1) := by decide +kernel
theorem dX5_bitsTold_24 : decode cX5_bitsTold 24 = .ok (.iconst 5, 1) := by decide +kernel
theorem dX5_bitsTold_25 : decode cX5_bitsTold 25 = .ok (.if_icmp .ne 13, 3) := by decide +kernel
theorem dX5_bitsTold_28 : decode cX5_bitsTold 28 = .ok (.aload_n 0, 1) := by decide +kernel
theorem dX5_bitsTold_29 : decode cX5_bitsTold 29 = .ok (.getfield 28, 3) := by decide +kernel
theorem dX5_bitsTold_32 : decode cX5_bitsTold 32 = .ok (.getfield 165, 3) := by decide +kernel
theorem dX5_bitsTold_35 : decode cX5_bitsTold 35 = .ok (.goto 10, 3) := by decide +kernel
theorem dX5_bitsTold_38 : decode cX5_bitsTold 38 = .ok (.aload_n 0, 1) := by decide +kernel
theorem dX5_bitsTold_39 : decode cX5_bitsTold 39 = .ok (.getfield 10, 3) := by decide +kernel
theorem dX5_bitsTold_42 : decode cX5_bitsTold 42 = .ok (.getfield 124, 3) := by decide +kernel
theorem dX5_bitsTold_45 : decode cX5_bitsTold 45 = .ok (.istore 5, 2) := by decide +kernel
theorem dX5_bitsTold_47 : decode cX5_bitsTold 47 = .ok (.iconst 0, 1) := by decide +kernel
theorem dX5_bitsTold_48 : decode cX5_bitsTold 48 = .ok (.istore 6, 2) := by decide +kernel
theorem dX5_bitsTold_50 : decode cX5_bitsTold 50 = .ok (.iload 6, 2) := by decide +kernel
theorem dX5_bitsTold_52 : decode cX5_bitsTold 52 = .ok (.iload 5, 2) := by decide +kernel
theorem dX5_bitsTold_54 : decode cX5_bitsTold 54 = .ok (.if_icmp .ge 102, 3) := by decide +kernel
theorem dX5_bitsTold_57 : decode cX5_bitsTold 57 = .ok (.aload_n 0, 1) := by decide +kernel
theorem dX5_bitsTold_58 : decode cX5_bitsTold 58 = .ok (.getfield 16, 3) := by decide +kernel
theorem dX5_bitsTold_61 : decode cX5_bitsTold 61 = .ok (.aload_n 0, 1) := by decide +kernel
theorem dX5_bitsTold_62 : decode cX5_bitsTold 62 = .ok (.getfield 10, 3) := by decide +kernel
theorem dX5_bitsTold_65 : decode cX5_bitsTold 65 = .ok (.invokevirtual 179, 3) := by decide +kernel
theorem dX5_bitsTold_68 : decode cX5_bitsTold 68 = .ok (.iload_n 3, 1) := by decide +kernel
theorem dX5_bitsTold_69 : decode cX5_bitsTold 69 = .ok (.iconst 1, 1) := by decide +kernel
theorem dX5_bitsTold_70 : decode cX5_bitsTold 70 = .ok (.if_icmp .ne 17, 3) := by decide +kernel
theorem dX5_bitsTold_73 : decode cX5_bitsTold 73 = .ok (.aload_n 0, 1) := by decide +kernel
theorem dX5_bitsTold_74 : decode cX5_bitsTold 74 = .ok (.getfield 16, 3) := by decide +kernel
theorem dX5_bitsTold_77 : decode cX5_bitsTold 77 = .ok (.getfield 127, 3) := by decide +kernel
theorem dX5_bitsTold_80 : decode cX5_bitsTold 80 = .ok (.iload_n 2, 1) := by decide +kernel
theorem dX5_bitsTold_81 : decode cX5_bitsTold 81 = .ok (.iload 6, 2) := by decide +kernel
theorem dX5_bitsTold_83 : decode cX5_bitsTold 83 = .ok (.iastore, 1) := by decide +kernel
theorem dX5_bitsTold_84 : decode cX5_bitsTold 84 = .ok (.goto 36, 3) := by decide +kernel
theorem dX5_bitsTold_87 : decode cX5_bitsTold 87 = .ok (.iload_n 3, 1) := by decide +kernel
theorem dX5_bitsTold_88 : decode cX5_bitsTold 88 = .ok (.iconst 2, 1) := by decide +kernel
theorem dX5_bitsTold_89 : decode cX5_bitsTold 89 = .ok (.if_icmp .ne 17, 3) := by decide +kernel
theorem dX5_bitsTold_92 : decode cX5_bitsTold 92 = .ok (.aload_n 0, 1) := by decide +kernel
theorem dX5_bitsTold_93 : decode cX5_bitsTold 93 = .ok (.getfield 16, 3) := by decide +kernel
theorem dX5_bitsTold_96 : decode cX5_bitsTold 96 = .ok (.getfield 94, 3) := by decide +kernel
theorem dX5_bitsTold_99 : decode cX5_bitsTold 99 = .ok (.iload_n 2, 1) := by decide +kernel
theorem dX5_bitsTold_100 : decode cX5_bitsTold 100 = .ok (.iload 6, 2) := by decide +kernel
theorem dX5_bitsTold_102 : decode cX5_bitsTold 102 = .ok (.iastore, 1) := by decide +kernel
theorem dX5_bitsTold_103 : decode cX5_bitsTold 103 = .ok (.goto 17, 3) := by decide +kernel
theorem dX5_bitsTold_106 : decode cX5_bitsTold 106 = .ok (.iload_n 3, 1) := by decide +kernel
theorem dX5_bitsTold_107 : decode cX5_bitsTold 107 = .ok (.iconst 5, 1) := by decide +kernel
theorem dX5_bitsTold_108 : decode cX5_bitsTold 108 = .ok (.if_icmp .ne 12, 3) := by decide +kernel
theorem dX5_bitsTold_111 : decode cX5_bitsTold 111 = .ok (.aload_n 0, 1) := by decide +kernel
theorem dX5_bitsTold_112 : decode cX5_bitsTold 112 = .ok (.getfield 16, 3) := by decide +kernel
theorem dX5_bitsTold_115 : decode cX5_bitsTold 115 = .ok (.iload 6, 2) := by decide +kernel
theorem dX5_bitsTold_117 : decode cX5_bitsTold 117 = .ok (.putfield 172, 3) := by decide +kernel
theorem dX5_bitsTold_120 : decode cX5_bitsTold 120 = .ok (.aload_n 0, 1) := by decide +kernel
theorem dX5_bitsTold_121 : decode cX5_bitsTold 121 = .ok (.aload_n 1, 1) := by decide +kernel
theorem dX5_bitsTold_122 : decode cX5_bitsTold 122 = .ok (.iload_n 3, 1) := by decide +kernel
theorem dX5_bitsTold_123 : decode cX5_bitsTold 123 = .ok (.bipush 6, 2) := by decide +kernel
theorem dX5_bitsTold_125 : decode cX5_bitsTold 125 = .ok (.if_icmp .ne 8, 3) := by decide +kernel
theorem dX5_bitsTold_128 : decode cX5_bitsTold 128 = .ok (.iload 6, 2) := by decide +kernel
theorem dX5_bitsTold_130 : decode cX5_bitsTold 130 = .ok (.goto 4, 3) := by decide +kernel
theorem dX5_bitsTold_133 : decode cX5_bitsTold 133 = .ok (.iload_n 2, 1) := by decide +kernel
theorem dX5_bitsTold_134 : decode cX5_bitsTold 134 = .ok (.invokevirtual 215, 3) := by decide +kernel
theorem dX5_bitsTold_137 : decode cX5_bitsTold 137 = .ok (.iconst (-1), 1) := by decide +kernel
theorem dX5_bitsTold_138 : decode cX5_bitsTold 138 = .ok (.if_icmp .ne 12, 3) := by decide +kernel
theorem dX5_bitsTold_141 : decode cX5_bitsTold 141 = .ok (.iload 4, 2) := by decide +kernel
theorem dX5_bitsTold_143 : decode cX5_bitsTold 143 = .ok (.iconst 1, 1) := by decide +kernel
theorem dX5_bitsTold_144 : decode cX5_bitsTold 144 = .ok (.iload 6, 2) := by decide +kernel
theorem dX5_bitsTold_146 : decode cX5_bitsTold 146 = .ok (.ishl, 1) := by decide +kernel
theorem dX5_bitsTold_147 : decode cX5_bitsTold 147 = .ok (.ior, 1) := by decide +kernel
theorem dX5_bitsTold_148 : decode cX5_bitsTold 148 = .ok (.istore 4, 2) := by decide +kernel
theorem dX5_bitsTold_150 : decode cX5_bitsTold 150 = .ok (.iinc 6 1, 3) := by decide +kernel
theorem dX5_bitsTold_153 : decode cX5_bitsTold 153 = .ok (.goto (-103), 3) := by decide +kernel
theorem dX5_bitsTold_156 : decode cX5_bitsTold 156 = .ok (.iload 4, 2) := by decide +kernel
theorem dX5_bitsTold_158 : decode cX5_bitsTold 158 = .ok (.ireturn, 1) := by decide +kernel
set_option maxRecDepth 20000 in
theorem dX5_firstOtherwise_0 : decode cX5_firstOtherwise 0 = .ok (.iconst 0, 1) := by decide +kernel
theorem dX5_firstOtherwise_1 : decode cX5_firstOtherwise 1 = .ok (.istore_n 3, 1) := by decide +kernel
theorem dX5_firstOtherwise_2 : decode cX5_firstOtherwise 2 = .ok (.iload_n 3, 1) := by decide +kernel
theorem dX5_firstOtherwise_3 : decode cX5_firstOtherwise 3 = .ok (.aload_n 1, 1) := by decide +kernel
theorem dX5_firstOtherwise_4 : decode cX5_firstOtherwise 4 = .ok (.getfield 214, 3) := by decide +kernel
theorem dX5_firstOtherwise_7 : decode cX5_firstOtherwise 7 = .ok (.if_icmp .ge 56, 3) := by decide +kernel
theorem dX5_firstOtherwise_10 : decode cX5_firstOtherwise 10 = .ok (.aload_n 0, 1) := by decide +kernel
theorem dX5_firstOtherwise_11 : decode cX5_firstOtherwise 11 = .ok (.getfield 28, 3) := by decide +kernel
theorem dX5_firstOtherwise_14 : decode cX5_firstOtherwise 14 = .ok (.aload_n 0, 1) := by decide +kernel
theorem dX5_firstOtherwise_15 : decode cX5_firstOtherwise 15 = .ok (.getfield 16, 3) := by decide +kernel
theorem dX5_firstOtherwise_18 : decode cX5_firstOtherwise 18 = .ok (.iload_n 2, 1) := by decide +kernel
theorem dX5_firstOtherwise_19 : decode cX5_firstOtherwise 19 = .ok (.iconst 0, 1) := by decide +kernel
theorem dX5_firstOtherwise_20 : decode cX5_firstOtherwise 20 = .ok (.invokevirtual 226, 3) := by decide +kernel
theorem dX5_firstOtherwise_23 : decode cX5_firstOtherwise 23 = .ok (.pop, 1) := by decide +kernel
theorem dX5_firstOtherwise_24 : decode cX5_firstOtherwise 24 = .ok (.aload_n 0, 1) := by decide +kernel
theorem dX5_firstOtherwise_25 : decode cX5_firstOtherwise 25 = .ok (.getfield 16, 3) := by decide +kernel
theorem dX5_firstOtherwise_28 : decode cX5_firstOtherwise 28 = .ok (.dup, 1) := by decide +kernel
theorem dX5_firstOtherwise_29 : decode cX5_firstOtherwise 29 = .ok (.getfield 81, 3) := by decide +kernel
theorem dX5_firstOtherwise_32 : decode cX5_firstOtherwise 32 = .ok (.iconst 1, 1) := by decide +kernel
theorem dX5_firstOtherwise_33 : decode cX5_firstOtherwise 33 = .ok (.iadd, 1) := by decide +kernel
theorem dX5_firstOtherwise_34 : decode cX5_firstOtherwise 34 = .ok (.putfield 81, 3) := by decide +kernel
theorem dX5_firstOtherwise_37 : decode cX5_firstOtherwise 37 = .ok (.aload_n 1, 1) := by decide +kernel
theorem dX5_firstOtherwise_38 : decode cX5_firstOtherwise 38 = .ok (.getfield 230, 3) := by decide +kernel
theorem dX5_firstOtherwise_41 : decode cX5_firstOtherwise 41 = .ok (.iload_n 3, 1) := by decide +kernel
theorem dX5_firstOtherwise_42 : decode cX5_firstOtherwise 42 = .ok (.iaload, 1) := by decide +kernel
theorem dX5_firstOtherwise_43 : decode cX5_firstOtherwise 43 = .ok (.aload_n 0, 1) := by decide +kernel
theorem dX5_firstOtherwise_44 : decode cX5_firstOtherwise 44 = .ok (.getfield 16, 3) := by decide +kernel
theorem dX5_firstOtherwise_47 : decode cX5_firstOtherwise 47 = .ok (.getfield 98, 3) := by decide +kernel
theorem dX5_firstOtherwise_50 : decode cX5_firstOtherwise 50 = .ok (.iload_n 2, 1) := by decide +kernel
theorem dX5_firstOtherwise_51 : decode cX5_firstOtherwise 51 = .ok (.iaload, 1) := by decide +kernel
theorem dX5_firstOtherwise_52 : decode cX5_firstOtherwise 52 = .ok (.if_icmp .eq 5, 3) := by decide +kernel
theorem dX5_firstOtherwise_55 : decode cX5_firstOtherwise 55 = .ok (.iload_n 3, 1) := by decide +kernel
theorem dX5_firstOtherwise_56 : decode cX5_firstOtherwise 56 = .ok (.ireturn, 1) := by decide +kernel
theorem dX5_firstOtherwise_57 : decode cX5_firstOtherwise 57 = .ok (.iinc 3 1, 3) := by decide +kernel
theorem dX5_firstOtherwise_60 : decode cX5_firstOtherwise 60 = .ok (.goto (-58), 3) := by decide +kernel
theorem dX5_firstOtherwise_63 : decode cX5_firstOtherwise 63 = .ok (.iconst (-1), 1) := by decide +kernel
theorem dX5_firstOtherwise_64 : decode cX5_firstOtherwise 64 = .ok (.ireturn, 1) := by decide +kernel
set_option maxRecDepth 20000 in
theorem dX5_stood_0 : decode cX5_stood 0 = .ok (.aload_n 0, 1) := by decide +kernel
theorem dX5_stood_1 : decode cX5_stood 1 = .ok (.iload_n 1, 1) := by decide +kernel
theorem dX5_stood_2 : decode cX5_stood 2 = .ok (.invokevirtual 207, 3) := by decide +kernel
theorem dX5_stood_5 : decode cX5_stood 5 = .ok (.astore_n 3, 1) := by decide +kernel
theorem dX5_stood_6 : decode cX5_stood 6 = .ok (.aload_n 3, 1) := by decide +kernel
theorem dX5_stood_7 : decode cX5_stood 7 = .ok (.ifnull 28, 3) := by decide +kernel
theorem dX5_stood_10 : decode cX5_stood 10 = .ok (.aload_n 0, 1) := by decide +kernel
theorem dX5_stood_11 : decode cX5_stood 11 = .ok (.iload_n 2, 1) := by decide +kernel
theorem dX5_stood_12 : decode cX5_stood 12 = .ok (.invokevirtual 115, 3) := by decide +kernel
theorem dX5_stood_15 : decode cX5_stood 15 = .ok (.ifCond .eq 20, 3) := by decide +kernel
theorem dX5_stood_18 : decode cX5_stood 18 = .ok (.aload_n 3, 1) := by decide +kernel
theorem dX5_stood_19 : decode cX5_stood 19 = .ok (.getfield 211, 3) := by decide +kernel
theorem dX5_stood_22 : decode cX5_stood 22 = .ok (.iconst (-1), 1) := by decide +kernel
theorem dX5_stood_23 : decode cX5_stood 23 = .ok (.if_icmp .eq 12, 3) := by decide +kernel
theorem dX5_stood_26 : decode cX5_stood 26 = .ok (.aload_n 3, 1) := by decide +kernel
theorem dX5_stood_27 : decode cX5_stood 27 = .ok (.getfield 214, 3) := by decide +kernel
theorem dX5_stood_30 : decode cX5_stood 30 = .ok (.bipush 20, 2) := by decide +kernel
theorem dX5_stood_32 : decode cX5_stood 32 = .ok (.if_icmp .le 7, 3) := by decide +kernel
theorem dX5_stood_35 : decode cX5_stood 35 = .ok (.ldc2_w 160, 3) := by decide +kernel
theorem dX5_stood_38 : decode cX5_stood 38 = .ok (.lreturn, 1) := by decide +kernel
theorem dX5_stood_39 : decode cX5_stood 39 = .ok (.lconst 0, 1) := by decide +kernel
theorem dX5_stood_40 : decode cX5_stood 40 = .ok (.lstore 4, 2) := by decide +kernel
theorem dX5_stood_42 : decode cX5_stood 42 = .ok (.iconst 0, 1) := by decide +kernel
theorem dX5_stood_43 : decode cX5_stood 43 = .ok (.istore 6, 2) := by decide +kernel
theorem dX5_stood_45 : decode cX5_stood 45 = .ok (.iload 6, 2) := by decide +kernel
theorem dX5_stood_47 : decode cX5_stood 47 = .ok (.bipush 64, 2) := by decide +kernel
theorem dX5_stood_49 : decode cX5_stood 49 = .ok (.if_icmp .ge 62, 3) := by decide +kernel
theorem dX5_stood_52 : decode cX5_stood 52 = .ok (.aload_n 0, 1) := by decide +kernel
theorem dX5_stood_53 : decode cX5_stood 53 = .ok (.getfield 16, 3) := by decide +kernel
theorem dX5_stood_56 : decode cX5_stood 56 = .ok (.aload_n 0, 1) := by decide +kernel
theorem dX5_stood_57 : decode cX5_stood 57 = .ok (.getfield 10, 3) := by decide +kernel
theorem dX5_stood_60 : decode cX5_stood 60 = .ok (.invokevirtual 179, 3) := by decide +kernel
theorem dX5_stood_63 : decode cX5_stood 63 = .ok (.aload_n 0, 1) := by decide +kernel
theorem dX5_stood_64 : decode cX5_stood 64 = .ok (.getfield 16, 3) := by decide +kernel
theorem dX5_stood_67 : decode cX5_stood 67 = .ok (.getfield 98, 3) := by decide +kernel
theorem dX5_stood_70 : decode cX5_stood 70 = .ok (.iload_n 2, 1) := by decide +kernel
theorem dX5_stood_71 : decode cX5_stood 71 = .ok (.iload 6, 2) := by decide +kernel
theorem dX5_stood_73 : decode cX5_stood 73 = .ok (.iastore, 1) := by decide +kernel
theorem dX5_stood_74 : decode cX5_stood 74 = .ok (.aload_n 0, 1) := by decide +kernel
theorem dX5_stood_75 : decode cX5_stood 75 = .ok (.getfield 10, 3) := by decide +kernel
theorem dX5_stood_78 : decode cX5_stood 78 = .ok (.iload 6, 2) := by decide +kernel
theorem dX5_stood_80 : decode cX5_stood 80 = .ok (.invokevirtual 118, 3) := by decide +kernel
theorem dX5_stood_83 : decode cX5_stood 83 = .ok (.ifCond .ne 22, 3) := by decide +kernel
theorem dX5_stood_86 : decode cX5_stood 86 = .ok (.aload_n 0, 1) := by decide +kernel
theorem dX5_stood_87 : decode cX5_stood 87 = .ok (.aload_n 3, 1) := by decide +kernel
theorem dX5_stood_88 : decode cX5_stood 88 = .ok (.iload_n 2, 1) := by decide +kernel
theorem dX5_stood_89 : decode cX5_stood 89 = .ok (.invokevirtual 215, 3) := by decide +kernel
theorem dX5_stood_92 : decode cX5_stood 92 = .ok (.iconst (-1), 1) := by decide +kernel
theorem dX5_stood_93 : decode cX5_stood 93 = .ok (.if_icmp .ne 12, 3) := by decide +kernel
theorem dX5_stood_96 : decode cX5_stood 96 = .ok (.lload 4, 2) := by decide +kernel
theorem dX5_stood_98 : decode cX5_stood 98 = .ok (.lconst 1, 1) := by decide +kernel
theorem dX5_stood_99 : decode cX5_stood 99 = .ok (.iload 6, 2) := by decide +kernel
theorem dX5_stood_101 : decode cX5_stood 101 = .ok (.lshl, 1) := by decide +kernel
theorem dX5_stood_102 : decode cX5_stood 102 = .ok (.lor, 1) := by decide +kernel
theorem dX5_stood_103 : decode cX5_stood 103 = .ok (.lstore 4, 2) := by decide +kernel
theorem dX5_stood_105 : decode cX5_stood 105 = .ok (.iinc 6 1, 3) := by decide +kernel
theorem dX5_stood_108 : decode cX5_stood 108 = .ok (.goto (-63), 3) := by decide +kernel
theorem dX5_stood_111 : decode cX5_stood 111 = .ok (.lload 4, 2) := by decide +kernel
theorem dX5_stood_113 : decode cX5_stood 113 = .ok (.lreturn, 1) := by decide +kernel
set_option maxRecDepth 20000 in
theorem dX5_film_0 : decode cX5_film 0 = .ok (.aload_n 0, 1) := by decide +kernel
theorem dX5_film_1 : decode cX5_film 1 = .ok (.iload_n 1, 1) := by decide +kernel
theorem dX5_film_2 : decode cX5_film 2 = .ok (.invokevirtual 207, 3) := by decide +kernel
theorem dX5_film_5 : decode cX5_film 5 = .ok (.astore 4, 2) := by decide +kernel
theorem dX5_film_7 : decode cX5_film 7 = .ok (.aload 4, 2) := by decide +kernel
theorem dX5_film_9 : decode cX5_film 9 = .ok (.ifnull 20, 3) := by decide +kernel
theorem dX5_film_12 : decode cX5_film 12 = .ok (.aload_n 0, 1) := by decide +kernel
theorem dX5_film_13 : decode cX5_film 13 = .ok (.iload_n 2, 1) := by decide +kernel
theorem dX5_film_14 : decode cX5_film 14 = .ok (.invokevirtual 115, 3) := by decide +kernel
theorem dX5_film_17 : decode cX5_film 17 = .ok (.ifCond .eq 12, 3) := by decide +kernel
theorem dX5_film_20 : decode cX5_film 20 = .ok (.iload_n 3, 1) := by decide +kernel
theorem dX5_film_21 : decode cX5_film 21 = .ok (.bipush 20, 2) := by decide +kernel
theorem dX5_film_23 : decode cX5_film 23 = .ok (.invokestatic 104, 3) := by decide +kernel
theorem dX5_film_26 : decode cX5_film 26 = .ok (.ifCond .ne 6, 3) := by decide +kernel
theorem dX5_film_29 : decode cX5_film 29 = .ok (.bipush (-2), 2) := by decide +kernel
theorem dX5_film_31 : decode cX5_film 31 = .ok (.ireturn, 1) := by decide +kernel
theorem dX5_film_32 : decode cX5_film 32 = .ok (.aload 4, 2) := by decide +kernel
theorem dX5_film_34 : decode cX5_film 34 = .ok (.iconst 0, 1) := by decide +kernel
theorem dX5_film_35 : decode cX5_film 35 = .ok (.iload_n 3, 1) := by decide +kernel
theorem dX5_film_36 : decode cX5_film 36 = .ok (.invokevirtual 233, 3) := by decide +kernel
theorem dX5_film_39 : decode cX5_film 39 = .ok (.aload_n 0, 1) := by decide +kernel
theorem dX5_film_40 : decode cX5_film 40 = .ok (.getfield 16, 3) := by decide +kernel
theorem dX5_film_43 : decode cX5_film 43 = .ok (.aload_n 0, 1) := by decide +kernel
theorem dX5_film_44 : decode cX5_film 44 = .ok (.getfield 10, 3) := by decide +kernel
theorem dX5_film_47 : decode cX5_film 47 = .ok (.invokevirtual 179, 3) := by decide +kernel
theorem dX5_film_50 : decode cX5_film 50 = .ok (.iconst 0, 1) := by decide +kernel
theorem dX5_film_51 : decode cX5_film 51 = .ok (.istore 5, 2) := by decide +kernel
theorem dX5_film_53 : decode cX5_film 53 = .ok (.iload 5, 2) := by decide +kernel
theorem dX5_film_55 : decode cX5_film 55 = .ok (.iload_n 3, 1) := by decide +kernel
theorem dX5_film_56 : decode cX5_film 56 = .ok (.if_icmp .ge 53, 3) := by decide +kernel
theorem dX5_film_59 : decode cX5_film 59 = .ok (.aload_n 0, 1) := by decide +kernel
theorem dX5_film_60 : decode cX5_film 60 = .ok (.getfield 28, 3) := by decide +kernel
theorem dX5_film_63 : decode cX5_film 63 = .ok (.aload_n 0, 1) := by decide +kernel
theorem dX5_film_64 : decode cX5_film 64 = .ok (.getfield 16, 3) := by decide +kernel
theorem dX5_film_67 : decode cX5_film 67 = .ok (.iload_n 2, 1) := by decide +kernel
theorem dX5_film_68 : decode cX5_film 68 = .ok (.iconst 0, 1) := by decide +kernel
theorem dX5_film_69 : decode cX5_film 69 = .ok (.invokevirtual 226, 3) := by decide +kernel
theorem dX5_film_72 : decode cX5_film 72 = .ok (.pop, 1) := by decide +kernel
theorem dX5_film_73 : decode cX5_film 73 = .ok (.aload_n 0, 1) := by decide +kernel
theorem dX5_film_74 : decode cX5_film 74 = .ok (.getfield 16, 3) := by decide +kernel
theorem dX5_film_77 : decode cX5_film 77 = .ok (.dup, 1) := by decide +kernel
theorem dX5_film_78 : decode cX5_film 78 = .ok (.getfield 81, 3) := by decide +kernel
theorem dX5_film_81 : decode cX5_film 81 = .ok (.iconst 1, 1) := by decide +kernel
theorem dX5_film_82 : decode cX5_film 82 = .ok (.iadd, 1) := by decide +kernel
theorem dX5_film_83 : decode cX5_film 83 = .ok (.putfield 81, 3) := by decide +kernel
theorem dX5_film_86 : decode cX5_film 86 = .ok (.aload 4, 2) := by decide +kernel
theorem dX5_film_88 : decode cX5_film 88 = .ok (.iload 5, 2) := by decide +kernel
theorem dX5_film_90 : decode cX5_film 90 = .ok (.aload_n 0, 1) := by decide +kernel
theorem dX5_film_91 : decode cX5_film 91 = .ok (.getfield 16, 3) := by decide +kernel
theorem dX5_film_94 : decode cX5_film 94 = .ok (.getfield 98, 3) := by decide +kernel
theorem dX5_film_97 : decode cX5_film 97 = .ok (.iload_n 2, 1) := by decide +kernel
theorem dX5_film_98 : decode cX5_film 98 = .ok (.iaload, 1) := by decide +kernel
theorem dX5_film_99 : decode cX5_film 99 = .ok (.invokevirtual 236, 3) := by decide +kernel
theorem dX5_film_102 : decode cX5_film 102 = .ok (.pop, 1) := by decide +kernel
theorem dX5_film_103 : decode cX5_film 103 = .ok (.iinc 5 1, 3) := by decide +kernel
theorem dX5_film_106 : decode cX5_film 106 = .ok (.goto (-53), 3) := by decide +kernel
theorem dX5_film_109 : decode cX5_film 109 = .ok (.iload_n 3, 1) := by decide +kernel
theorem dX5_film_110 : decode cX5_film 110 = .ok (.ireturn, 1) := by decide +kernel
set_option maxRecDepth 20000 in
theorem dX5_drawn_0 : decode cX5_drawn 0 = .ok (.aload_n 0, 1) := by decide +kernel
theorem dX5_drawn_1 : decode cX5_drawn 1 = .ok (.iload_n 2, 1) := by decide +kernel
theorem dX5_drawn_2 : decode cX5_drawn 2 = .ok (.invokevirtual 115, 3) := by decide +kernel
theorem dX5_drawn_5 : decode cX5_drawn 5 = .ok (.ifCond .eq 12, 3) := by decide +kernel
theorem dX5_drawn_8 : decode cX5_drawn 8 = .ok (.iload_n 3, 1) := by decide +kernel
theorem dX5_drawn_9 : decode cX5_drawn 9 = .ok (.bipush 40, 2) := by decide +kernel
theorem dX5_drawn_11 : decode cX5_drawn 11 = .ok (.invokestatic 104, 3) := by decide +kernel
theorem dX5_drawn_14 : decode cX5_drawn 14 = .ok (.ifCond .ne 6, 3) := by decide +kernel
theorem dX5_drawn_17 : decode cX5_drawn 17 = .ok (.bipush (-2), 2) := by decide +kernel
theorem dX5_drawn_19 : decode cX5_drawn 19 = .ok (.ireturn, 1) := by decide +kernel
theorem dX5_drawn_20 : decode cX5_drawn 20 = .ok (.aload_n 0, 1) := by decide +kernel
theorem dX5_drawn_21 : decode cX5_drawn 21 = .ok (.getfield 10, 3) := by decide +kernel
theorem dX5_drawn_24 : decode cX5_drawn 24 = .ok (.iload_n 1, 1) := by decide +kernel
theorem dX5_drawn_25 : decode cX5_drawn 25 = .ok (.iload_n 2, 1) := by decide +kernel
theorem dX5_drawn_26 : decode cX5_drawn 26 = .ok (.iload_n 3, 1) := by decide +kernel
theorem dX5_drawn_27 : decode cX5_drawn 27 = .ok (.invokevirtual 239, 3) := by decide +kernel
theorem dX5_drawn_30 : decode cX5_drawn 30 = .ok (.ireturn, 1) := by decide +kernel
set_option maxRecDepth 20000 in
theorem dX5_chance_0 : decode cX5_chance 0 = .ok (.iload_n 2, 1) := by decide +kernel
theorem dX5_chance_1 : decode cX5_chance 1 = .ok (.iconst 1, 1) := by decide +kernel
theorem dX5_chance_2 : decode cX5_chance 2 = .ok (.if_icmp .lt 26, 3) := by decide +kernel
theorem dX5_chance_5 : decode cX5_chance 5 = .ok (.iload_n 2, 1) := by decide +kernel
theorem dX5_chance_6 : decode cX5_chance 6 = .ok (.bipush 40, 2) := by decide +kernel
theorem dX5_chance_8 : decode cX5_chance 8 = .ok (.if_icmp .gt 20, 3) := by decide +kernel
theorem dX5_chance_11 : decode cX5_chance 11 = .ok (.aload_n 0, 1) := by decide +kernel
theorem dX5_chance_12 : decode cX5_chance 12 = .ok (.iload_n 3, 1) := by decide +kernel
theorem dX5_chance_13 : decode cX5_chance 13 = .ok (.invokevirtual 115, 3) := by decide +kernel
theorem dX5_chance_16 : decode cX5_chance 16 = .ok (.ifCond .eq 12, 3) := by decide +kernel
theorem dX5_chance_19 : decode cX5_chance 19 = .ok (.iload 4, 2) := by decide +kernel
theorem dX5_chance_21 : decode cX5_chance 21 = .ok (.iconst 1, 1) := by decide +kernel
theorem dX5_chance_22 : decode cX5_chance 22 = .ok (.invokestatic 104, 3) := by decide +kernel
theorem dX5_chance_25 : decode cX5_chance 25 = .ok (.ifCond .ne 7, 3) := by decide +kernel
theorem dX5_chance_28 : decode cX5_chance 28 = .ok (.ldc2_w 160, 3) := by decide +kernel
theorem dX5_chance_31 : decode cX5_chance 31 = .ok (.lreturn, 1) := by decide +kernel
theorem dX5_chance_32 : decode cX5_chance 32 = .ok (.iconst 0, 1) := by decide +kernel
theorem dX5_chance_33 : decode cX5_chance 33 = .ok (.istore 5, 2) := by decide +kernel
theorem dX5_chance_35 : decode cX5_chance 35 = .ok (.iconst 0, 1) := by decide +kernel
theorem dX5_chance_36 : decode cX5_chance 36 = .ok (.istore 6, 2) := by decide +kernel
theorem dX5_chance_38 : decode cX5_chance 38 = .ok (.iload 6, 2) := by decide +kernel
theorem dX5_chance_40 : decode cX5_chance 40 = .ok (.iload_n 2, 1) := by decide +kernel
theorem dX5_chance_41 : decode cX5_chance 41 = .ok (.if_icmp .ge 37, 3) := by decide +kernel
theorem dX5_chance_44 : decode cX5_chance 44 = .ok (.aload_n 0, 1) := by decide +kernel
theorem dX5_chance_45 : decode cX5_chance 45 = .ok (.getfield 10, 3) := by decide +kernel
theorem dX5_chance_48 : decode cX5_chance 48 = .ok (.aload_n 0, 1) := by decide +kernel
theorem dX5_chance_49 : decode cX5_chance 49 = .ok (.getfield 10, 3) := by decide +kernel
theorem dX5_chance_52 : decode cX5_chance 52 = .ok (.iload_n 1, 1) := by decide +kernel
theorem dX5_chance_53 : decode cX5_chance 53 = .ok (.iload 6, 2) := by decide +kernel
theorem dX5_chance_55 : decode cX5_chance 55 = .ok (.iadd, 1) := by decide +kernel
theorem dX5_chance_56 : decode cX5_chance 56 = .ok (.iload_n 3, 1) := by decide +kernel
theorem dX5_chance_57 : decode cX5_chance 57 = .ok (.bipush 8, 2) := by decide +kernel
theorem dX5_chance_59 : decode cX5_chance 59 = .ok (.invokevirtual 239, 3) := by decide +kernel
theorem dX5_chance_62 : decode cX5_chance 62 = .ok (.invokevirtual 242, 3) := by decide +kernel
theorem dX5_chance_65 : decode cX5_chance 65 = .ok (.iconst 1, 1) := by decide +kernel
theorem dX5_chance_66 : decode cX5_chance 66 = .ok (.if_icmp .ne 6, 3) := by decide +kernel
theorem dX5_chance_69 : decode cX5_chance 69 = .ok (.iinc 5 1, 3) := by decide +kernel
theorem dX5_chance_72 : decode cX5_chance 72 = .ok (.iinc 6 1, 3) := by decide +kernel
theorem dX5_chance_75 : decode cX5_chance 75 = .ok (.goto (-37), 3) := by decide +kernel
theorem dX5_chance_78 : decode cX5_chance 78 = .ok (.iload 5, 2) := by decide +kernel
theorem dX5_chance_80 : decode cX5_chance 80 = .ok (.iload_n 2, 1) := by decide +kernel
theorem dX5_chance_81 : decode cX5_chance 81 = .ok (.iload 4, 2) := by decide +kernel
theorem dX5_chance_83 : decode cX5_chance 83 = .ok (.invokestatic 203, 3) := by decide +kernel
theorem dX5_chance_86 : decode cX5_chance 86 = .ok (.lreturn, 1) := by decide +kernel
set_option maxRecDepth 20000 in
theorem dX5_image_0 : decode cX5_image 0 = .ok (.aload_n 0, 1) := by decide +kernel
theorem dX5_image_1 : decode cX5_image 1 = .ok (.getfield 22, 3) := by decide +kernel
theorem dX5_image_4 : decode cX5_image 4 = .ok (.aload_n 0, 1) := by decide +kernel
theorem dX5_image_5 : decode cX5_image 5 = .ok (.getfield 10, 3) := by decide +kernel
theorem dX5_image_8 : decode cX5_image 8 = .ok (.invokevirtual 179, 3) := by decide +kernel
theorem dX5_image_11 : decode cX5_image 11 = .ok (.aload_n 0, 1) := by decide +kernel
theorem dX5_image_12 : decode cX5_image 12 = .ok (.iconst 1, 1) := by decide +kernel
theorem dX5_image_13 : decode cX5_image 13 = .ok (.putfield 245, 3) := by decide +kernel
theorem dX5_image_16 : decode cX5_image 16 = .ok (.aload_n 0, 1) := by decide +kernel
theorem dX5_image_17 : decode cX5_image 17 = .ok (.getfield 22, 3) := by decide +kernel
theorem dX5_image_20 : decode cX5_image 20 = .ok (.getfield 124, 3) := by decide +kernel
theorem dX5_image_23 : decode cX5_image 23 = .ok (.ireturn, 1) := by decide +kernel
set_option maxRecDepth 20000 in
theorem dX5_back_0 : decode cX5_back 0 = .ok (.aload_n 0, 1) := by decide +kernel
theorem dX5_back_1 : decode cX5_back 1 = .ok (.getfield 245, 3) := by decide +kernel
theorem dX5_back_4 : decode cX5_back 4 = .ok (.ifCond .ne 6, 3) := by decide +kernel
theorem dX5_back_7 : decode cX5_back 7 = .ok (.bipush (-3), 2) := by decide +kernel
theorem dX5_back_9 : decode cX5_back 9 = .ok (.ireturn, 1) := by decide +kernel
theorem dX5_back_10 : decode cX5_back 10 = .ok (.aload_n 0, 1) := by decide +kernel
theorem dX5_back_11 : decode cX5_back 11 = .ok (.getfield 10, 3) := by decide +kernel
theorem dX5_back_14 : decode cX5_back 14 = .ok (.aload_n 0, 1) := by decide +kernel
theorem dX5_back_15 : decode cX5_back 15 = .ok (.getfield 22, 3) := by decide +kernel
theorem dX5_back_18 : decode cX5_back 18 = .ok (.invokevirtual 179, 3) := by decide +kernel
theorem dX5_back_21 : decode cX5_back 21 = .ok (.aload_n 0, 1) := by decide +kernel
theorem dX5_back_22 : decode cX5_back 22 = .ok (.getfield 10, 3) := by decide +kernel
theorem dX5_back_25 : decode cX5_back 25 = .ok (.getfield 124, 3) := by decide +kernel
theorem dX5_back_28 : decode cX5_back 28 = .ok (.ireturn, 1) := by decide +kernel
set_option maxRecDepth 20000 in
theorem dX5_count_0 : decode cX5_count 0 = .ok (.iload_n 1, 1) := by decide +kernel
theorem dX5_count_1 : decode cX5_count 1 = .ok (.tableswitch 90 0 5 #[39, 47, 58, 66, 74, 82], 39) := by decide +kernel
theorem dX5_count_40 : decode cX5_count 40 = .ok (.aload_n 0, 1) := by decide +kernel
theorem dX5_count_41 : decode cX5_count 41 = .ok (.getfield 10, 3) := by decide +kernel
theorem dX5_count_44 : decode cX5_count 44 = .ok (.getfield 124, 3) := by decide +kernel
theorem dX5_count_47 : decode cX5_count 47 = .ok (.ireturn, 1) := by decide +kernel
theorem dX5_count_48 : decode cX5_count 48 = .ok (.aload_n 0, 1) := by decide +kernel
theorem dX5_count_49 : decode cX5_count 49 = .ok (.getfield 10, 3) := by decide +kernel
theorem dX5_count_52 : decode cX5_count 52 = .ok (.getfield 91, 3) := by decide +kernel
theorem dX5_count_55 : decode cX5_count 55 = .ok (.invokestatic 249, 3) := by decide +kernel
theorem dX5_count_58 : decode cX5_count 58 = .ok (.ireturn, 1) := by decide +kernel
theorem dX5_count_59 : decode cX5_count 59 = .ok (.aload_n 0, 1) := by decide +kernel
theorem dX5_count_60 : decode cX5_count 60 = .ok (.getfield 10, 3) := by decide +kernel
theorem dX5_count_63 : decode cX5_count 63 = .ok (.getfield 81, 3) := by decide +kernel
theorem dX5_count_66 : decode cX5_count 66 = .ok (.ireturn, 1) := by decide +kernel
theorem dX5_count_67 : decode cX5_count 67 = .ok (.aload_n 0, 1) := by decide +kernel
theorem dX5_count_68 : decode cX5_count 68 = .ok (.getfield 28, 3) := by decide +kernel
theorem dX5_count_71 : decode cX5_count 71 = .ok (.getfield 165, 3) := by decide +kernel
theorem dX5_count_74 : decode cX5_count 74 = .ok (.ireturn, 1) := by decide +kernel
theorem dX5_count_75 : decode cX5_count 75 = .ok (.aload_n 0, 1) := by decide +kernel
theorem dX5_count_76 : decode cX5_count 76 = .ok (.getfield 35, 3) := by decide +kernel
theorem dX5_count_79 : decode cX5_count 79 = .ok (.getfield 162, 3) := by decide +kernel
theorem dX5_count_82 : decode cX5_count 82 = .ok (.ireturn, 1) := by decide +kernel
theorem dX5_count_83 : decode cX5_count 83 = .ok (.aload_n 0, 1) := by decide +kernel
theorem dX5_count_84 : decode cX5_count 84 = .ok (.getfield 10, 3) := by decide +kernel
theorem dX5_count_87 : decode cX5_count 87 = .ok (.getfield 172, 3) := by decide +kernel
theorem dX5_count_90 : decode cX5_count 90 = .ok (.ireturn, 1) := by decide +kernel
theorem dX5_count_91 : decode cX5_count 91 = .ok (.bipush (-2), 2) := by decide +kernel
theorem dX5_count_93 : decode cX5_count 93 = .ok (.ireturn, 1) := by decide +kernel
set_option maxRecDepth 20000 in
theorem dX5_sheet_0 : decode cX5_sheet 0 = .ok (.aload_n 0, 1) := by decide +kernel
theorem dX5_sheet_1 : decode cX5_sheet 1 = .ok (.iload_n 1, 1) := by decide +kernel
theorem dX5_sheet_2 : decode cX5_sheet 2 = .ok (.invokevirtual 207, 3) := by decide +kernel
theorem dX5_sheet_5 : decode cX5_sheet 5 = .ok (.astore 4, 2) := by decide +kernel
theorem dX5_sheet_7 : decode cX5_sheet 7 = .ok (.aload 4, 2) := by decide +kernel
theorem dX5_sheet_9 : decode cX5_sheet 9 = .ok (.ifnull 13, 3) := by decide +kernel
theorem dX5_sheet_12 : decode cX5_sheet 12 = .ok (.iload_n 2, 1) := by decide +kernel
theorem dX5_sheet_13 : decode cX5_sheet 13 = .ok (.iconst (-1), 1) := by decide +kernel
theorem dX5_sheet_14 : decode cX5_sheet 14 = .ok (.if_icmp .lt 8, 3) := by decide +kernel
theorem dX5_sheet_17 : decode cX5_sheet 17 = .ok (.iload_n 2, 1) := by decide +kernel
theorem dX5_sheet_18 : decode cX5_sheet 18 = .ok (.iconst 2, 1) := by decide +kernel
theorem dX5_sheet_19 : decode cX5_sheet 19 = .ok (.if_icmp .le 6, 3) := by decide +kernel
theorem dX5_sheet_22 : decode cX5_sheet 22 = .ok (.bipush (-2), 2) := by decide +kernel
theorem dX5_sheet_24 : decode cX5_sheet 24 = .ok (.ireturn, 1) := by decide +kernel
theorem dX5_sheet_25 : decode cX5_sheet 25 = .ok (.iload_n 2, 1) := by decide +kernel
theorem dX5_sheet_26 : decode cX5_sheet 26 = .ok (.iconst (-1), 1) := by decide +kernel
theorem dX5_sheet_27 : decode cX5_sheet 27 = .ok (.if_icmp .ne 12, 3) := by decide +kernel
theorem dX5_sheet_30 : decode cX5_sheet 30 = .ok (.aload 4, 2) := by decide +kernel
theorem dX5_sheet_32 : decode cX5_sheet 32 = .ok (.iconst (-1), 1) := by decide +kernel
theorem dX5_sheet_33 : decode cX5_sheet 33 = .ok (.iconst 0, 1) := by decide +kernel
theorem dX5_sheet_34 : decode cX5_sheet 34 = .ok (.invokevirtual 233, 3) := by decide +kernel
theorem dX5_sheet_37 : decode cX5_sheet 37 = .ok (.iconst 1, 1) := by decide +kernel
theorem dX5_sheet_38 : decode cX5_sheet 38 = .ok (.ireturn, 1) := by decide +kernel
theorem dX5_sheet_39 : decode cX5_sheet 39 = .ok (.iload_n 3, 1) := by decide +kernel
theorem dX5_sheet_40 : decode cX5_sheet 40 = .ok (.bipush 40, 2) := by decide +kernel
theorem dX5_sheet_42 : decode cX5_sheet 42 = .ok (.if_icmp .le 6, 3) := by decide +kernel
theorem dX5_sheet_45 : decode cX5_sheet 45 = .ok (.bipush (-2), 2) := by decide +kernel
theorem dX5_sheet_47 : decode cX5_sheet 47 = .ok (.ireturn, 1) := by decide +kernel
theorem dX5_sheet_48 : decode cX5_sheet 48 = .ok (.iload_n 3, 1) := by decide +kernel
theorem dX5_sheet_49 : decode cX5_sheet 49 = .ok (.ifCond .ge 6, 3) := by decide +kernel
theorem dX5_sheet_52 : decode cX5_sheet 52 = .ok (.bipush (-14), 2) := by decide +kernel
theorem dX5_sheet_54 : decode cX5_sheet 54 = .ok (.ireturn, 1) := by decide +kernel
theorem dX5_sheet_55 : decode cX5_sheet 55 = .ok (.aload 4, 2) := by decide +kernel
theorem dX5_sheet_57 : decode cX5_sheet 57 = .ok (.iload_n 2, 1) := by decide +kernel
theorem dX5_sheet_58 : decode cX5_sheet 58 = .ok (.iload_n 3, 1) := by decide +kernel
theorem dX5_sheet_59 : decode cX5_sheet 59 = .ok (.invokevirtual 233, 3) := by decide +kernel
theorem dX5_sheet_62 : decode cX5_sheet 62 = .ok (.iconst 1, 1) := by decide +kernel
theorem dX5_sheet_63 : decode cX5_sheet 63 = .ok (.ireturn, 1) := by decide +kernel
set_option maxRecDepth 20000 in
theorem dX5_cell_0 : decode cX5_cell 0 = .ok (.aload_n 0, 1) := by decide +kernel
theorem dX5_cell_1 : decode cX5_cell 1 = .ok (.iload_n 1, 1) := by decide +kernel
theorem dX5_cell_2 : decode cX5_cell 2 = .ok (.invokevirtual 207, 3) := by decide +kernel
theorem dX5_cell_5 : decode cX5_cell 5 = .ok (.astore 4, 2) := by decide +kernel
theorem dX5_cell_7 : decode cX5_cell 7 = .ok (.aload 4, 2) := by decide +kernel
theorem dX5_cell_9 : decode cX5_cell 9 = .ok (.ifnonnull 6, 3) := by decide +kernel
theorem dX5_cell_12 : decode cX5_cell 12 = .ok (.bipush (-2), 2) := by decide +kernel
theorem dX5_cell_14 : decode cX5_cell 14 = .ok (.ireturn, 1) := by decide +kernel
theorem dX5_cell_15 : decode cX5_cell 15 = .ok (.aload 4, 2) := by decide +kernel
theorem dX5_cell_17 : decode cX5_cell 17 = .ok (.getfield 211, 3) := by decide +kernel
theorem dX5_cell_20 : decode cX5_cell 20 = .ok (.iconst (-1), 1) := by decide +kernel
theorem dX5_cell_21 : decode cX5_cell 21 = .ok (.if_icmp .ne 6, 3) := by decide +kernel
theorem dX5_cell_24 : decode cX5_cell 24 = .ok (.bipush (-11), 2) := by decide +kernel
theorem dX5_cell_26 : decode cX5_cell 26 = .ok (.ireturn, 1) := by decide +kernel
theorem dX5_cell_27 : decode cX5_cell 27 = .ok (.aload 4, 2) := by decide +kernel
theorem dX5_cell_29 : decode cX5_cell 29 = .ok (.iload_n 2, 1) := by decide +kernel
theorem dX5_cell_30 : decode cX5_cell 30 = .ok (.iload_n 3, 1) := by decide +kernel
theorem dX5_cell_31 : decode cX5_cell 31 = .ok (.invokevirtual 236, 3) := by decide +kernel
theorem dX5_cell_34 : decode cX5_cell 34 = .ok (.ifCond .eq 7, 3) := by decide +kernel
theorem dX5_cell_37 : decode cX5_cell 37 = .ok (.iconst 1, 1) := by decide +kernel
theorem dX5_cell_38 : decode cX5_cell 38 = .ok (.goto 5, 3) := by decide +kernel
theorem dX5_cell_41 : decode cX5_cell 41 = .ok (.bipush (-12), 2) := by decide +kernel
theorem dX5_cell_43 : decode cX5_cell 43 = .ok (.ireturn, 1) := by decide +kernel
set_option maxRecDepth 20000 in
theorem dX5_copy_0 : decode cX5_copy 0 = .ok (.aload_n 0, 1) := by decide +kernel
theorem dX5_copy_1 : decode cX5_copy 1 = .ok (.iload_n 1, 1) := by decide +kernel
theorem dX5_copy_2 : decode cX5_copy 2 = .ok (.invokevirtual 207, 3) := by decide +kernel
theorem dX5_copy_5 : decode cX5_copy 5 = .ok (.astore 6, 2) := by decide +kernel
theorem dX5_copy_7 : decode cX5_copy 7 = .ok (.aload_n 0, 1) := by decide +kernel
theorem dX5_copy_8 : decode cX5_copy 8 = .ok (.iload_n 3, 1) := by decide +kernel
theorem dX5_copy_9 : decode cX5_copy 9 = .ok (.invokevirtual 207, 3) := by decide +kernel
theorem dX5_copy_12 : decode cX5_copy 12 = .ok (.astore 7, 2) := by decide +kernel
theorem dX5_copy_14 : decode cX5_copy 14 = .ok (.aload 6, 2) := by decide +kernel
theorem dX5_copy_16 : decode cX5_copy 16 = .ok (.ifnull 8, 3) := by decide +kernel
theorem dX5_copy_19 : decode cX5_copy 19 = .ok (.aload 7, 2) := by decide +kernel
theorem dX5_copy_21 : decode cX5_copy 21 = .ok (.ifnonnull 6, 3) := by decide +kernel
theorem dX5_copy_24 : decode cX5_copy 24 = .ok (.bipush (-2), 2) := by decide +kernel
theorem dX5_copy_26 : decode cX5_copy 26 = .ok (.ireturn, 1) := by decide +kernel
theorem dX5_copy_27 : decode cX5_copy 27 = .ok (.aload 6, 2) := by decide +kernel
theorem dX5_copy_29 : decode cX5_copy 29 = .ok (.getfield 211, 3) := by decide +kernel
theorem dX5_copy_32 : decode cX5_copy 32 = .ok (.iconst (-1), 1) := by decide +kernel
theorem dX5_copy_33 : decode cX5_copy 33 = .ok (.if_icmp .eq 12, 3) := by decide +kernel
theorem dX5_copy_36 : decode cX5_copy 36 = .ok (.aload 7, 2) := by decide +kernel
theorem dX5_copy_38 : decode cX5_copy 38 = .ok (.getfield 211, 3) := by decide +kernel
theorem dX5_copy_41 : decode cX5_copy 41 = .ok (.iconst (-1), 1) := by decide +kernel
theorem dX5_copy_42 : decode cX5_copy 42 = .ok (.if_icmp .ne 6, 3) := by decide +kernel
theorem dX5_copy_45 : decode cX5_copy 45 = .ok (.bipush (-11), 2) := by decide +kernel
theorem dX5_copy_47 : decode cX5_copy 47 = .ok (.ireturn, 1) := by decide +kernel
theorem dX5_copy_48 : decode cX5_copy 48 = .ok (.aload 6, 2) := by decide +kernel
theorem dX5_copy_50 : decode cX5_copy 50 = .ok (.getfield 211, 3) := by decide +kernel
theorem dX5_copy_53 : decode cX5_copy 53 = .ok (.aload 7, 2) := by decide +kernel
theorem dX5_copy_55 : decode cX5_copy 55 = .ok (.getfield 211, 3) := by decide +kernel
theorem dX5_copy_58 : decode cX5_copy 58 = .ok (.if_icmp .eq 6, 3) := by decide +kernel
theorem dX5_copy_61 : decode cX5_copy 61 = .ok (.bipush (-13), 2) := by decide +kernel
theorem dX5_copy_63 : decode cX5_copy 63 = .ok (.ireturn, 1) := by decide +kernel
theorem dX5_copy_64 : decode cX5_copy 64 = .ok (.aload 6, 2) := by decide +kernel
theorem dX5_copy_66 : decode cX5_copy 66 = .ok (.iload_n 2, 1) := by decide +kernel
theorem dX5_copy_67 : decode cX5_copy 67 = .ok (.iload 5, 2) := by decide +kernel
theorem dX5_copy_69 : decode cX5_copy 69 = .ok (.invokevirtual 255, 3) := by decide +kernel
theorem dX5_copy_72 : decode cX5_copy 72 = .ok (.ifCond .eq 15, 3) := by decide +kernel
theorem dX5_copy_75 : decode cX5_copy 75 = .ok (.aload 7, 2) := by decide +kernel
theorem dX5_copy_77 : decode cX5_copy 77 = .ok (.iload 4, 2) := by decide +kernel
theorem dX5_copy_79 : decode cX5_copy 79 = .ok (.iload 5, 2) := by decide +kernel
theorem dX5_copy_81 : decode cX5_copy 81 = .ok (.invokevirtual 255, 3) := by decide +kernel
theorem dX5_copy_84 : decode cX5_copy 84 = .ok (.ifCond .ne 6, 3) := by decide +kernel
theorem dX5_copy_87 : decode cX5_copy 87 = .ok (.bipush (-12), 2) := by decide +kernel
theorem dX5_copy_89 : decode cX5_copy 89 = .ok (.ireturn, 1) := by decide +kernel
theorem dX5_copy_90 : decode cX5_copy 90 = .ok (.aload 6, 2) := by decide +kernel
theorem dX5_copy_92 : decode cX5_copy 92 = .ok (.getfield 230, 3) := by decide +kernel
theorem dX5_copy_95 : decode cX5_copy 95 = .ok (.iload_n 2, 1) := by decide +kernel
theorem dX5_copy_96 : decode cX5_copy 96 = .ok (.aload 7, 2) := by decide +kernel
theorem dX5_copy_98 : decode cX5_copy 98 = .ok (.getfield 230, 3) := by decide +kernel
theorem dX5_copy_101 : decode cX5_copy 101 = .ok (.iload 4, 2) := by decide +kernel
theorem dX5_copy_103 : decode cX5_copy 103 = .ok (.iload 5, 2) := by decide +kernel
theorem dX5_copy_105 : decode cX5_copy 105 = .ok (.invokestatic 258, 3) := by decide +kernel
theorem dX5_copy_108 : decode cX5_copy 108 = .ok (.iload 5, 2) := by decide +kernel
theorem dX5_copy_110 : decode cX5_copy 110 = .ok (.ireturn, 1) := by decide +kernel
set_option maxRecDepth 20000 in
theorem dX5_suits_0 : decode cX5_suits 0 = .ok (.aload_n 0, 1) := by decide +kernel
theorem dX5_suits_1 : decode cX5_suits 1 = .ok (.iload_n 1, 1) := by decide +kernel
theorem dX5_suits_2 : decode cX5_suits 2 = .ok (.invokevirtual 207, 3) := by decide +kernel
theorem dX5_suits_5 : decode cX5_suits 5 = .ok (.astore 5, 2) := by decide +kernel
theorem dX5_suits_7 : decode cX5_suits 7 = .ok (.aload 5, 2) := by decide +kernel
theorem dX5_suits_9 : decode cX5_suits 9 = .ok (.ifnull 20, 3) := by decide +kernel
theorem dX5_suits_12 : decode cX5_suits 12 = .ok (.iload_n 2, 1) := by decide +kernel
theorem dX5_suits_13 : decode cX5_suits 13 = .ok (.iconst 2, 1) := by decide +kernel
theorem dX5_suits_14 : decode cX5_suits 14 = .ok (.invokestatic 104, 3) := by decide +kernel
theorem dX5_suits_17 : decode cX5_suits 17 = .ok (.ifCond .eq 12, 3) := by decide +kernel
theorem dX5_suits_20 : decode cX5_suits 20 = .ok (.iload 4, 2) := by decide +kernel
theorem dX5_suits_22 : decode cX5_suits 22 = .ok (.iconst 5, 1) := by decide +kernel
theorem dX5_suits_23 : decode cX5_suits 23 = .ok (.invokestatic 104, 3) := by decide +kernel
theorem dX5_suits_26 : decode cX5_suits 26 = .ok (.ifCond .ne 6, 3) := by decide +kernel
theorem dX5_suits_29 : decode cX5_suits 29 = .ok (.bipush (-2), 2) := by decide +kernel
theorem dX5_suits_31 : decode cX5_suits 31 = .ok (.ireturn, 1) := by decide +kernel
theorem dX5_suits_32 : decode cX5_suits 32 = .ok (.aload 5, 2) := by decide +kernel
theorem dX5_suits_34 : decode cX5_suits 34 = .ok (.getfield 211, 3) := by decide +kernel
theorem dX5_suits_37 : decode cX5_suits 37 = .ok (.iconst (-1), 1) := by decide +kernel
theorem dX5_suits_38 : decode cX5_suits 38 = .ok (.if_icmp .ne 6, 3) := by decide +kernel
theorem dX5_suits_41 : decode cX5_suits 41 = .ok (.bipush (-11), 2) := by decide +kernel
theorem dX5_suits_43 : decode cX5_suits 43 = .ok (.ireturn, 1) := by decide +kernel
theorem dX5_suits_44 : decode cX5_suits 44 = .ok (.aload 5, 2) := by decide +kernel
end
section
theorem dX5_suits_46 : decode cX5_suits 46 = .ok (.getfield 211, 3) := by decide +kernel
theorem dX5_suits_49 : decode cX5_suits 49 = .ok (.iload_n 2, 1) := by decide +kernel
theorem dX5_suits_50 : decode cX5_suits 50 = .ok (.if_icmp .eq 6, 3) := by decide +kernel
theorem dX5_suits_53 : decode cX5_suits 53 = .ok (.bipush (-13), 2) := by decide +kernel
theorem dX5_suits_55 : decode cX5_suits 55 = .ok (.ireturn, 1) := by decide +kernel
theorem dX5_suits_56 : decode cX5_suits 56 = .ok (.iconst 0, 1) := by decide +kernel
theorem dX5_suits_57 : decode cX5_suits 57 = .ok (.istore 6, 2) := by decide +kernel
theorem dX5_suits_59 : decode cX5_suits 59 = .ok (.iconst 0, 1) := by decide +kernel
theorem dX5_suits_60 : decode cX5_suits 60 = .ok (.istore 7, 2) := by decide +kernel
theorem dX5_suits_62 : decode cX5_suits 62 = .ok (.iload 7, 2) := by decide +kernel
theorem dX5_suits_64 : decode cX5_suits 64 = .ok (.iload 4, 2) := by decide +kernel
theorem dX5_suits_66 : decode cX5_suits 66 = .ok (.if_icmp .ge 69, 3) := by decide +kernel
theorem dX5_suits_69 : decode cX5_suits 69 = .ok (.iload_n 3, 1) := by decide +kernel
theorem dX5_suits_70 : decode cX5_suits 70 = .ok (.iconst 3, 1) := by decide +kernel
theorem dX5_suits_71 : decode cX5_suits 71 = .ok (.iload 7, 2) := by decide +kernel
theorem dX5_suits_73 : decode cX5_suits 73 = .ok (.imul, 1) := by decide +kernel
theorem dX5_suits_74 : decode cX5_suits 74 = .ok (.iadd, 1) := by decide +kernel
theorem dX5_suits_75 : decode cX5_suits 75 = .ok (.istore 8, 2) := by decide +kernel
theorem dX5_suits_77 : decode cX5_suits 77 = .ok (.aload 5, 2) := by decide +kernel
theorem dX5_suits_79 : decode cX5_suits 79 = .ok (.iload 8, 2) := by decide +kernel
theorem dX5_suits_81 : decode cX5_suits 81 = .ok (.iconst 3, 1) := by decide +kernel
theorem dX5_suits_82 : decode cX5_suits 82 = .ok (.invokevirtual 255, 3) := by decide +kernel
theorem dX5_suits_85 : decode cX5_suits 85 = .ok (.ifCond .ne 6, 3) := by decide +kernel
theorem dX5_suits_88 : decode cX5_suits 88 = .ok (.bipush (-12), 2) := by decide +kernel
theorem dX5_suits_90 : decode cX5_suits 90 = .ok (.ireturn, 1) := by decide +kernel
theorem dX5_suits_91 : decode cX5_suits 91 = .ok (.aload_n 0, 1) := by decide +kernel
theorem dX5_suits_92 : decode cX5_suits 92 = .ok (.aload 5, 2) := by decide +kernel
theorem dX5_suits_94 : decode cX5_suits 94 = .ok (.getfield 230, 3) := by decide +kernel
theorem dX5_suits_97 : decode cX5_suits 97 = .ok (.iload 8, 2) := by decide +kernel
theorem dX5_suits_99 : decode cX5_suits 99 = .ok (.iaload, 1) := by decide +kernel
theorem dX5_suits_100 : decode cX5_suits 100 = .ok (.aload 5, 2) := by decide +kernel
theorem dX5_suits_102 : decode cX5_suits 102 = .ok (.getfield 230, 3) := by decide +kernel
theorem dX5_suits_105 : decode cX5_suits 105 = .ok (.iload 8, 2) := by decide +kernel
theorem dX5_suits_107 : decode cX5_suits 107 = .ok (.iconst 1, 1) := by decide +kernel
theorem dX5_suits_108 : decode cX5_suits 108 = .ok (.iadd, 1) := by decide +kernel
theorem dX5_suits_109 : decode cX5_suits 109 = .ok (.iaload, 1) := by decide +kernel
theorem dX5_suits_110 : decode cX5_suits 110 = .ok (.aload 5, 2) := by decide +kernel
theorem dX5_suits_112 : decode cX5_suits 112 = .ok (.getfield 230, 3) := by decide +kernel
theorem dX5_suits_115 : decode cX5_suits 115 = .ok (.iload 8, 2) := by decide +kernel
theorem dX5_suits_117 : decode cX5_suits 117 = .ok (.iconst 2, 1) := by decide +kernel
theorem dX5_suits_118 : decode cX5_suits 118 = .ok (.iadd, 1) := by decide +kernel
theorem dX5_suits_119 : decode cX5_suits 119 = .ok (.iaload, 1) := by decide +kernel
theorem dX5_suits_120 : decode cX5_suits 120 = .ok (.invokevirtual 264, 3) := by decide +kernel
theorem dX5_suits_123 : decode cX5_suits 123 = .ok (.ifCond .lt 6, 3) := by decide +kernel
theorem dX5_suits_126 : decode cX5_suits 126 = .ok (.iinc 6 1, 3) := by decide +kernel
theorem dX5_suits_129 : decode cX5_suits 129 = .ok (.iinc 7 1, 3) := by decide +kernel
theorem dX5_suits_132 : decode cX5_suits 132 = .ok (.goto (-70), 3) := by decide +kernel
theorem dX5_suits_135 : decode cX5_suits 135 = .ok (.iload 6, 2) := by decide +kernel
theorem dX5_suits_137 : decode cX5_suits 137 = .ok (.ireturn, 1) := by decide +kernel
set_option maxRecDepth 20000 in
theorem dX5_taken_0 : decode cX5_taken 0 = .ok (.iload_n 2, 1) := by decide +kernel
theorem dX5_taken_1 : decode cX5_taken 1 = .ok (.invokestatic 121, 3) := by decide +kernel
theorem dX5_taken_4 : decode cX5_taken 4 = .ok (.ifCond .ne 6, 3) := by decide +kernel
theorem dX5_taken_7 : decode cX5_taken 7 = .ok (.bipush (-2), 2) := by decide +kernel
theorem dX5_taken_9 : decode cX5_taken 9 = .ok (.ireturn, 1) := by decide +kernel
theorem dX5_taken_10 : decode cX5_taken 10 = .ok (.aload_n 0, 1) := by decide +kernel
theorem dX5_taken_11 : decode cX5_taken 11 = .ok (.iload_n 1, 1) := by decide +kernel
theorem dX5_taken_12 : decode cX5_taken 12 = .ok (.invokevirtual 115, 3) := by decide +kernel
theorem dX5_taken_15 : decode cX5_taken 15 = .ok (.ifCond .ne 6, 3) := by decide +kernel
theorem dX5_taken_18 : decode cX5_taken 18 = .ok (.bipush (-11), 2) := by decide +kernel
theorem dX5_taken_20 : decode cX5_taken 20 = .ok (.ireturn, 1) := by decide +kernel
theorem dX5_taken_21 : decode cX5_taken 21 = .ok (.aload_n 0, 1) := by decide +kernel
theorem dX5_taken_22 : decode cX5_taken 22 = .ok (.getfield 10, 3) := by decide +kernel
theorem dX5_taken_25 : decode cX5_taken 25 = .ok (.getfield 127, 3) := by decide +kernel
theorem dX5_taken_28 : decode cX5_taken 28 = .ok (.iload_n 1, 1) := by decide +kernel
theorem dX5_taken_29 : decode cX5_taken 29 = .ok (.iaload, 1) := by decide +kernel
theorem dX5_taken_30 : decode cX5_taken 30 = .ok (.istore_n 3, 1) := by decide +kernel
theorem dX5_taken_31 : decode cX5_taken 31 = .ok (.iconst 0, 1) := by decide +kernel
theorem dX5_taken_32 : decode cX5_taken 32 = .ok (.istore 4, 2) := by decide +kernel
theorem dX5_taken_34 : decode cX5_taken 34 = .ok (.iload 4, 2) := by decide +kernel
theorem dX5_taken_36 : decode cX5_taken 36 = .ok (.bipush 6, 2) := by decide +kernel
theorem dX5_taken_38 : decode cX5_taken 38 = .ok (.if_icmp .ge 37, 3) := by decide +kernel
theorem dX5_taken_41 : decode cX5_taken 41 = .ok (.iload_n 3, 1) := by decide +kernel
theorem dX5_taken_42 : decode cX5_taken 42 = .ok (.invokestatic 121, 3) := by decide +kernel
theorem dX5_taken_45 : decode cX5_taken 45 = .ok (.ifCond .eq 30, 3) := by decide +kernel
theorem dX5_taken_48 : decode cX5_taken 48 = .ok (.iload_n 3, 1) := by decide +kernel
theorem dX5_taken_49 : decode cX5_taken 49 = .ok (.iload_n 2, 1) := by decide +kernel
theorem dX5_taken_50 : decode cX5_taken 50 = .ok (.if_icmp .ne 13, 3) := by decide +kernel
theorem dX5_taken_53 : decode cX5_taken 53 = .ok (.aload_n 0, 1) := by decide +kernel
theorem dX5_taken_54 : decode cX5_taken 54 = .ok (.getfield 10, 3) := by decide +kernel
theorem dX5_taken_57 : decode cX5_taken 57 = .ok (.getfield 94, 3) := by decide +kernel
theorem dX5_taken_60 : decode cX5_taken 60 = .ok (.iload_n 1, 1) := by decide +kernel
theorem dX5_taken_61 : decode cX5_taken 61 = .ok (.iaload, 1) := by decide +kernel
theorem dX5_taken_62 : decode cX5_taken 62 = .ok (.ireturn, 1) := by decide +kernel
theorem dX5_taken_63 : decode cX5_taken 63 = .ok (.getstatic 267, 3) := by decide +kernel
theorem dX5_taken_66 : decode cX5_taken 66 = .ok (.iload_n 3, 1) := by decide +kernel
theorem dX5_taken_67 : decode cX5_taken 67 = .ok (.iaload, 1) := by decide +kernel
theorem dX5_taken_68 : decode cX5_taken 68 = .ok (.istore_n 3, 1) := by decide +kernel
theorem dX5_taken_69 : decode cX5_taken 69 = .ok (.iinc 4 1, 3) := by decide +kernel
theorem dX5_taken_72 : decode cX5_taken 72 = .ok (.goto (-38), 3) := by decide +kernel
theorem dX5_taken_75 : decode cX5_taken 75 = .ok (.bipush (-13), 2) := by decide +kernel
theorem dX5_taken_77 : decode cX5_taken 77 = .ok (.ireturn, 1) := by decide +kernel
theorem dX5_isWithin_0 : decode cX5_isWithin 0 = .ok (.iload_n 0, 1) := by decide +kernel
theorem dX5_isWithin_1 : decode cX5_isWithin 1 = .ok (.ifCond .lt 12, 3) := by decide +kernel
theorem dX5_isWithin_4 : decode cX5_isWithin 4 = .ok (.iload_n 0, 1) := by decide +kernel
theorem dX5_isWithin_5 : decode cX5_isWithin 5 = .ok (.iload_n 1, 1) := by decide +kernel
theorem dX5_isWithin_6 : decode cX5_isWithin 6 = .ok (.if_icmp .gt 7, 3) := by decide +kernel
theorem dX5_isWithin_9 : decode cX5_isWithin 9 = .ok (.iconst 1, 1) := by decide +kernel
theorem dX5_isWithin_10 : decode cX5_isWithin 10 = .ok (.goto 4, 3) := by decide +kernel
theorem dX5_isWithin_13 : decode cX5_isWithin 13 = .ok (.iconst 0, 1) := by decide +kernel
theorem dX5_isWithin_14 : decode cX5_isWithin 14 = .ok (.ireturn, 1) := by decide +kernel
set_option maxRecDepth 20000 in
theorem dX5_isTile_0 : decode cX5_isTile 0 = .ok (.iload_n 0, 1) := by decide +kernel
theorem dX5_isTile_1 : decode cX5_isTile 1 = .ok (.bipush 63, 2) := by decide +kernel
theorem dX5_isTile_3 : decode cX5_isTile 3 = .ok (.invokestatic 104, 3) := by decide +kernel
theorem dX5_isTile_6 : decode cX5_isTile 6 = .ok (.ireturn, 1) := by decide +kernel
set_option maxRecDepth 20000 in
theorem dX5_isKind_0 : decode cX5_isKind 0 = .ok (.iload_n 0, 1) := by decide +kernel
theorem dX5_isKind_1 : decode cX5_isKind 1 = .ok (.iconst 5, 1) := by decide +kernel
theorem dX5_isKind_2 : decode cX5_isKind 2 = .ok (.invokestatic 104, 3) := by decide +kernel
theorem dX5_isKind_5 : decode cX5_isKind 5 = .ok (.ireturn, 1) := by decide +kernel
theorem dX5_isIn_0 : decode cX5_isIn 0 = .ok (.lload_n 0, 1) := by decide +kernel
theorem dX5_isIn_1 : decode cX5_isIn 1 = .ok (.iload_n 2, 1) := by decide +kernel
theorem dX5_isIn_2 : decode cX5_isIn 2 = .ok (.lushr, 1) := by decide +kernel
theorem dX5_isIn_3 : decode cX5_isIn 3 = .ok (.lconst 1, 1) := by decide +kernel
theorem dX5_isIn_4 : decode cX5_isIn 4 = .ok (.land, 1) := by decide +kernel
theorem dX5_isIn_5 : decode cX5_isIn 5 = .ok (.lconst 0, 1) := by decide +kernel
theorem dX5_isIn_6 : decode cX5_isIn 6 = .ok (.lcmp, 1) := by decide +kernel
theorem dX5_isIn_7 : decode cX5_isIn 7 = .ok (.ifCond .eq 7, 3) := by decide +kernel
theorem dX5_isIn_10 : decode cX5_isIn 10 = .ok (.iconst 1, 1) := by decide +kernel
theorem dX5_isIn_11 : decode cX5_isIn 11 = .ok (.goto 4, 3) := by decide +kernel
theorem dX5_isIn_14 : decode cX5_isIn 14 = .ok (.iconst 0, 1) := by decide +kernel
theorem dX5_isIn_15 : decode cX5_isIn 15 = .ok (.ireturn, 1) := by decide +kernel
set_option maxRecDepth 20000 in
theorem dX5_isParty_0 : decode cX5_isParty 0 = .ok (.iload_n 1, 1) := by decide +kernel
theorem dX5_isParty_1 : decode cX5_isParty 1 = .ok (.aload_n 0, 1) := by decide +kernel
theorem dX5_isParty_2 : decode cX5_isParty 2 = .ok (.getfield 10, 3) := by decide +kernel
theorem dX5_isParty_5 : decode cX5_isParty 5 = .ok (.getfield 124, 3) := by decide +kernel
theorem dX5_isParty_8 : decode cX5_isParty 8 = .ok (.iconst 1, 1) := by decide +kernel
theorem dX5_isParty_9 : decode cX5_isParty 9 = .ok (.isub, 1) := by decide +kernel
theorem dX5_isParty_10 : decode cX5_isParty 10 = .ok (.invokestatic 104, 3) := by decide +kernel
theorem dX5_isParty_13 : decode cX5_isParty 13 = .ok (.ireturn, 1) := by decide +kernel
set_option maxRecDepth 20000 in
theorem dX5_isText_0 : decode cX5_isText 0 = .ok (.iload_n 1, 1) := by decide +kernel
theorem dX5_isText_1 : decode cX5_isText 1 = .ok (.aload_n 0, 1) := by decide +kernel
theorem dX5_isText_2 : decode cX5_isText 2 = .ok (.getfield 28, 3) := by decide +kernel
theorem dX5_isText_5 : decode cX5_isText 5 = .ok (.getfield 165, 3) := by decide +kernel
theorem dX5_isText_8 : decode cX5_isText 8 = .ok (.iconst 1, 1) := by decide +kernel
theorem dX5_isText_9 : decode cX5_isText 9 = .ok (.isub, 1) := by decide +kernel
theorem dX5_isText_10 : decode cX5_isText 10 = .ok (.invokestatic 104, 3) := by decide +kernel
theorem dX5_isText_13 : decode cX5_isText 13 = .ok (.ireturn, 1) := by decide +kernel
set_option maxRecDepth 20000 in
theorem dX5_sheetAt_0 : decode cX5_sheetAt 0 = .ok (.iload_n 1, 1) := by decide +kernel
theorem dX5_sheetAt_1 : decode cX5_sheetAt 1 = .ok (.iconst 3, 1) := by decide +kernel
theorem dX5_sheetAt_2 : decode cX5_sheetAt 2 = .ok (.invokestatic 104, 3) := by decide +kernel
theorem dX5_sheetAt_5 : decode cX5_sheetAt 5 = .ok (.ifCond .eq 12, 3) := by decide +kernel
theorem dX5_sheetAt_8 : decode cX5_sheetAt 8 = .ok (.aload_n 0, 1) := by decide +kernel
theorem dX5_sheetAt_9 : decode cX5_sheetAt 9 = .ok (.getfield 41, 3) := by decide +kernel
theorem dX5_sheetAt_12 : decode cX5_sheetAt 12 = .ok (.iload_n 1, 1) := by decide +kernel
theorem dX5_sheetAt_13 : decode cX5_sheetAt 13 = .ok (.aaload, 1) := by decide +kernel
theorem dX5_sheetAt_14 : decode cX5_sheetAt 14 = .ok (.goto 4, 3) := by decide +kernel
theorem dX5_sheetAt_17 : decode cX5_sheetAt 17 = .ok (.aconst_null, 1) := by decide +kernel
theorem dX5_sheetAt_18 : decode cX5_sheetAt 18 = .ok (.areturn, 1) := by decide +kernel
theorem dX5_bounded_0 : decode cX5_bounded 0 = .ok (.iload_n 1, 1) := by decide +kernel
theorem dX5_bounded_1 : decode cX5_bounded 1 = .ok (.iload_n 2, 1) := by decide +kernel
theorem dX5_bounded_2 : decode cX5_bounded 2 = .ok (.iload_n 0, 1) := by decide +kernel
theorem dX5_bounded_3 : decode cX5_bounded 3 = .ok (.invokestatic 270, 3) := by decide +kernel
theorem dX5_bounded_6 : decode cX5_bounded 6 = .ok (.invokestatic 275, 3) := by decide +kernel
theorem dX5_bounded_9 : decode cX5_bounded 9 = .ok (.ireturn, 1) := by decide +kernel
theorem dX5_inLowestTerms_0 : decode cX5_inLowestTerms 0 = .ok (.iload_n 1, 1) := by decide +kernel
theorem dX5_inLowestTerms_1 : decode cX5_inLowestTerms 1 = .ok (.istore_n 3, 1) := by decide +kernel
theorem dX5_inLowestTerms_2 : decode cX5_inLowestTerms 2 = .ok (.iload_n 0, 1) := by decide +kernel
theorem dX5_inLowestTerms_3 : decode cX5_inLowestTerms 3 = .ok (.istore 4, 2) := by decide +kernel
theorem dX5_inLowestTerms_5 : decode cX5_inLowestTerms 5 = .ok (.iconst 0, 1) := by decide +kernel
theorem dX5_inLowestTerms_6 : decode cX5_inLowestTerms 6 = .ok (.istore 5, 2) := by decide +kernel
theorem dX5_inLowestTerms_8 : decode cX5_inLowestTerms 8 = .ok (.iload 5, 2) := by decide +kernel
theorem dX5_inLowestTerms_10 : decode cX5_inLowestTerms 10 = .ok (.bipush 64, 2) := by decide +kernel
theorem dX5_inLowestTerms_12 : decode cX5_inLowestTerms 12 = .ok (.if_icmp .ge 27, 3) := by decide +kernel
theorem dX5_inLowestTerms_15 : decode cX5_inLowestTerms 15 = .ok (.iload 4, 2) := by decide +kernel
theorem dX5_inLowestTerms_17 : decode cX5_inLowestTerms 17 = .ok (.ifCond .eq 22, 3) := by decide +kernel
theorem dX5_inLowestTerms_20 : decode cX5_inLowestTerms 20 = .ok (.iload_n 3, 1) := by decide +kernel
theorem dX5_inLowestTerms_21 : decode cX5_inLowestTerms 21 = .ok (.iload 4, 2) := by decide +kernel
theorem dX5_inLowestTerms_23 : decode cX5_inLowestTerms 23 = .ok (.irem, 1) := by decide +kernel
theorem dX5_inLowestTerms_24 : decode cX5_inLowestTerms 24 = .ok (.istore 6, 2) := by decide +kernel
theorem dX5_inLowestTerms_26 : decode cX5_inLowestTerms 26 = .ok (.iload 4, 2) := by decide +kernel
theorem dX5_inLowestTerms_28 : decode cX5_inLowestTerms 28 = .ok (.istore_n 3, 1) := by decide +kernel
theorem dX5_inLowestTerms_29 : decode cX5_inLowestTerms 29 = .ok (.iload 6, 2) := by decide +kernel
theorem dX5_inLowestTerms_31 : decode cX5_inLowestTerms 31 = .ok (.istore 4, 2) := by decide +kernel
theorem dX5_inLowestTerms_33 : decode cX5_inLowestTerms 33 = .ok (.iinc 5 1, 3) := by decide +kernel
theorem dX5_inLowestTerms_36 : decode cX5_inLowestTerms 36 = .ok (.goto (-28), 3) := by decide +kernel
theorem dX5_inLowestTerms_39 : decode cX5_inLowestTerms 39 = .ok (.iload_n 2, 1) := by decide +kernel
theorem dX5_inLowestTerms_40 : decode cX5_inLowestTerms 40 = .ok (.ifCond .ne 7, 3) := by decide +kernel
theorem dX5_inLowestTerms_43 : decode cX5_inLowestTerms 43 = .ok (.iload_n 0, 1) := by decide +kernel
theorem dX5_inLowestTerms_44 : decode cX5_inLowestTerms 44 = .ok (.goto 4, 3) := by decide +kernel
theorem dX5_inLowestTerms_47 : decode cX5_inLowestTerms 47 = .ok (.iload_n 1, 1) := by decide +kernel
theorem dX5_inLowestTerms_48 : decode cX5_inLowestTerms 48 = .ok (.iconst 1, 1) := by decide +kernel
theorem dX5_inLowestTerms_49 : decode cX5_inLowestTerms 49 = .ok (.iload_n 3, 1) := by decide +kernel
theorem dX5_inLowestTerms_50 : decode cX5_inLowestTerms 50 = .ok (.invokestatic 275, 3) := by decide +kernel
theorem dX5_inLowestTerms_53 : decode cX5_inLowestTerms 53 = .ok (.idiv, 1) := by decide +kernel
theorem dX5_inLowestTerms_54 : decode cX5_inLowestTerms 54 = .ok (.i2l, 1) := by decide +kernel
theorem dX5_inLowestTerms_55 : decode cX5_inLowestTerms 55 = .ok (.lreturn, 1) := by decide +kernel
theorem dX6_in_0 : decode cX6_in 0 = .ok (.lload_n 0, 1) := by decide +kernel
theorem dX6_in_1 : decode cX6_in 1 = .ok (.lload_n 2, 1) := by decide +kernel
theorem dX6_in_2 : decode cX6_in 2 = .ok (.lcmp, 1) := by decide +kernel
theorem dX6_in_3 : decode cX6_in 3 = .ok (.ifCond .lt 14, 3) := by decide +kernel
theorem dX6_in_6 : decode cX6_in 6 = .ok (.lload_n 0, 1) := by decide +kernel
theorem dX6_in_7 : decode cX6_in 7 = .ok (.lload 4, 2) := by decide +kernel
theorem dX6_in_9 : decode cX6_in 9 = .ok (.lcmp, 1) := by decide +kernel
theorem dX6_in_10 : decode cX6_in 10 = .ok (.ifCond .gt 7, 3) := by decide +kernel
theorem dX6_in_13 : decode cX6_in 13 = .ok (.iconst 1, 1) := by decide +kernel
theorem dX6_in_14 : decode cX6_in 14 = .ok (.goto 4, 3) := by decide +kernel
theorem dX6_in_17 : decode cX6_in 17 = .ok (.iconst 0, 1) := by decide +kernel
theorem dX6_in_18 : decode cX6_in 18 = .ok (.ireturn, 1) := by decide +kernel
theorem dX6_within_0 : decode cX6_within 0 = .ok (.iload_n 0, 1) := by decide +kernel
theorem dX6_within_1 : decode cX6_within 1 = .ok (.iload_n 1, 1) := by decide +kernel
theorem dX6_within_2 : decode cX6_within 2 = .ok (.if_icmp .ge 7, 3) := by decide +kernel
theorem dX6_within_5 : decode cX6_within 5 = .ok (.iload_n 1, 1) := by decide +kernel
theorem dX6_within_6 : decode cX6_within 6 = .ok (.goto 13, 3) := by decide +kernel
theorem dX6_within_9 : decode cX6_within 9 = .ok (.iload_n 0, 1) := by decide +kernel
theorem dX6_within_10 : decode cX6_within 10 = .ok (.iload_n 2, 1) := by decide +kernel
theorem dX6_within_11 : decode cX6_within 11 = .ok (.if_icmp .le 7, 3) := by decide +kernel
theorem dX6_within_14 : decode cX6_within 14 = .ok (.iload_n 2, 1) := by decide +kernel
theorem dX6_within_15 : decode cX6_within 15 = .ok (.goto 4, 3) := by decide +kernel
theorem dX6_within_18 : decode cX6_within 18 = .ok (.iload_n 0, 1) := by decide +kernel
theorem dX6_within_19 : decode cX6_within 19 = .ok (.ireturn, 1) := by decide +kernel
set_option maxRecDepth 20000 in
theorem dX6_init_0 : decode cX6_init 0 = .ok (.aload_n 0, 1) := by decide +kernel
theorem dX6_init_1 : decode cX6_init 1 = .ok (.invokespecial 7, 3) := by decide +kernel
theorem dX6_init_4 : decode cX6_init 4 = .ok (.aload_n 0, 1) := by decide +kernel
theorem dX6_init_5 : decode cX6_init 5 = .ok (.sipush 960, 3) := by decide +kernel
theorem dX6_init_8 : decode cX6_init 8 = .ok (.newarray .int, 2) := by decide +kernel
theorem dX6_init_10 : decode cX6_init 10 = .ok (.putfield 13, 3) := by decide +kernel
theorem dX6_init_13 : decode cX6_init 13 = .ok (.aload_n 0, 1) := by decide +kernel
theorem dX6_init_14 : decode cX6_init 14 = .ok (.bipush 6, 2) := by decide +kernel
theorem dX6_init_16 : decode cX6_init 16 = .ok (.newarray .int, 2) := by decide +kernel
theorem dX6_init_18 : decode cX6_init 18 = .ok (.putfield 17, 3) := by decide +kernel
theorem dX6_init_21 : decode cX6_init 21 = .ok (.aload_n 0, 1) := by decide +kernel
theorem dX6_init_22 : decode cX6_init 22 = .ok (.sipush 160, 3) := by decide +kernel
theorem dX6_init_25 : decode cX6_init 25 = .ok (.newarray .int, 2) := by decide +kernel
theorem dX6_init_27 : decode cX6_init 27 = .ok (.putfield 20, 3) := by decide +kernel
theorem dX6_init_30 : decode cX6_init 30 = .ok (.aload_n 0, 1) := by decide +kernel
theorem dX6_init_31 : decode cX6_init 31 = .ok (.bipush 20, 2) := by decide +kernel
theorem dX6_init_33 : decode cX6_init 33 = .ok (.newarray .int, 2) := by decide +kernel
theorem dX6_init_35 : decode cX6_init 35 = .ok (.putfield 23, 3) := by decide +kernel
theorem dX6_init_38 : decode cX6_init 38 = .ok (.aload_n 0, 1) := by decide +kernel
theorem dX6_init_39 : decode cX6_init 39 = .ok (.iconst (-1), 1) := by decide +kernel
theorem dX6_init_40 : decode cX6_init 40 = .ok (.putfield 26, 3) := by decide +kernel
theorem dX6_init_43 : decode cX6_init 43 = .ok (.aload_n 0, 1) := by decide +kernel
theorem dX6_init_44 : decode cX6_init 44 = .ok (.bipush 21, 2) := by decide +kernel
theorem dX6_init_46 : decode cX6_init 46 = .ok (.newarray .int, 2) := by decide +kernel
theorem dX6_init_48 : decode cX6_init 48 = .ok (.putfield 29, 3) := by decide +kernel
theorem dX6_init_51 : decode cX6_init 51 = .ok (.aload_n 0, 1) := by decide +kernel
theorem dX6_init_52 : decode cX6_init 52 = .ok (.bipush 20, 2) := by decide +kernel
theorem dX6_init_54 : decode cX6_init 54 = .ok (.newarray .int, 2) := by decide +kernel
theorem dX6_init_56 : decode cX6_init 56 = .ok (.putfield 32, 3) := by decide +kernel
theorem dX6_init_59 : decode cX6_init 59 = .ok (.aload_n 0, 1) := by decide +kernel
theorem dX6_init_60 : decode cX6_init 60 = .ok (.iconst (-1), 1) := by decide +kernel
theorem dX6_init_61 : decode cX6_init 61 = .ok (.putfield 35, 3) := by decide +kernel
theorem dX6_init_64 : decode cX6_init 64 = .ok (.aload_n 0, 1) := by decide +kernel
theorem dX6_init_65 : decode cX6_init 65 = .ok (.iconst 4, 1) := by decide +kernel
theorem dX6_init_66 : decode cX6_init 66 = .ok (.newarray .boolean, 2) := by decide +kernel
theorem dX6_init_68 : decode cX6_init 68 = .ok (.putfield 38, 3) := by decide +kernel
theorem dX6_init_71 : decode cX6_init 71 = .ok (.aload_n 0, 1) := by decide +kernel
theorem dX6_init_72 : decode cX6_init 72 = .ok (.iconst 4, 1) := by decide +kernel
theorem dX6_init_73 : decode cX6_init 73 = .ok (.newarray .int, 2) := by decide +kernel
theorem dX6_init_75 : decode cX6_init 75 = .ok (.putfield 42, 3) := by decide +kernel
theorem dX6_init_78 : decode cX6_init 78 = .ok (.aload_n 0, 1) := by decide +kernel
theorem dX6_init_79 : decode cX6_init 79 = .ok (.iconst 4, 1) := by decide +kernel
theorem dX6_init_80 : decode cX6_init 80 = .ok (.newarray .int, 2) := by decide +kernel
theorem dX6_init_82 : decode cX6_init 82 = .ok (.putfield 45, 3) := by decide +kernel
theorem dX6_init_85 : decode cX6_init 85 = .ok (.aload_n 0, 1) := by decide +kernel
theorem dX6_init_86 : decode cX6_init 86 = .ok (.sipush 160, 3) := by decide +kernel
theorem dX6_init_89 : decode cX6_init 89 = .ok (.newarray .int, 2) := by decide +kernel
theorem dX6_init_91 : decode cX6_init 91 = .ok (.putfield 48, 3) := by decide +kernel
theorem dX6_init_94 : decode cX6_init 94 = .ok (.aload_n 0, 1) := by decide +kernel
theorem dX6_init_95 : decode cX6_init 95 = .ok (.iconst 0, 1) := by decide +kernel
theorem dX6_init_96 : decode cX6_init 96 = .ok (.bipush 116, 2) := by decide +kernel
theorem dX6_init_98 : decode cX6_init 98 = .ok (.bipush 117, 2) := by decide +kernel
theorem dX6_init_100 : decode cX6_init 100 = .ok (.bipush 114, 2) := by decide +kernel
theorem dX6_init_102 : decode cX6_init 102 = .ok (.bipush 110, 2) := by decide +kernel
theorem dX6_init_104 : decode cX6_init 104 = .ok (.bipush 115, 2) := by decide +kernel
theorem dX6_init_106 : decode cX6_init 106 = .ok (.bipush 32, 2) := by decide +kernel
theorem dX6_init_108 : decode cX6_init 108 = .ok (.bipush 109, 2) := by decide +kernel
theorem dX6_init_110 : decode cX6_init 110 = .ok (.bipush 105, 2) := by decide +kernel
theorem dX6_init_112 : decode cX6_init 112 = .ok (.invokevirtual 51, 3) := by decide +kernel
theorem dX6_init_115 : decode cX6_init 115 = .ok (.aload_n 0, 1) := by decide +kernel
theorem dX6_init_116 : decode cX6_init 116 = .ok (.bipush 8, 2) := by decide +kernel
theorem dX6_init_118 : decode cX6_init 118 = .ok (.bipush 110, 2) := by decide +kernel
theorem dX6_init_120 : decode cX6_init 120 = .ok (.bipush 117, 2) := by decide +kernel
theorem dX6_init_122 : decode cX6_init 122 = .ok (.bipush 116, 2) := by decide +kernel
theorem dX6_init_124 : decode cX6_init 124 = .ok (.bipush 101, 2) := by decide +kernel
theorem dX6_init_126 : decode cX6_init 126 = .ok (.bipush 32, 2) := by decide +kernel
theorem dX6_init_128 : decode cX6_init 128 = .ok (.bipush 43, 2) := by decide +kernel
theorem dX6_init_130 : decode cX6_init 130 = .ok (.bipush 32, 2) := by decide +kernel
theorem dX6_init_132 : decode cX6_init 132 = .ok (.bipush 110, 2) := by decide +kernel
theorem dX6_init_134 : decode cX6_init 134 = .ok (.invokevirtual 51, 3) := by decide +kernel
theorem dX6_init_137 : decode cX6_init 137 = .ok (.aload_n 0, 1) := by decide +kernel
theorem dX6_init_138 : decode cX6_init 138 = .ok (.bipush 16, 2) := by decide +kernel
theorem dX6_init_140 : decode cX6_init 140 = .ok (.bipush 117, 2) := by decide +kernel
theorem dX6_init_142 : decode cX6_init 142 = .ok (.bipush 109, 2) := by decide +kernel
theorem dX6_init_144 : decode cX6_init 144 = .ok (.bipush 98, 2) := by decide +kernel
theorem dX6_init_146 : decode cX6_init 146 = .ok (.bipush 101, 2) := by decide +kernel
theorem dX6_init_148 : decode cX6_init 148 = .ok (.bipush 114, 2) := by decide +kernel
theorem dX6_init_150 : decode cX6_init 150 = .ok (.bipush 32, 2) := by decide +kernel
theorem dX6_init_152 : decode cX6_init 152 = .ok (.bipush 59, 2) := by decide +kernel
theorem dX6_init_154 : decode cX6_init 154 = .ok (.bipush 32, 2) := by decide +kernel
theorem dX6_init_156 : decode cX6_init 156 = .ok (.invokevirtual 51, 3) := by decide +kernel
theorem dX6_init_159 : decode cX6_init 159 = .ok (.aload_n 0, 1) := by decide +kernel
theorem dX6_init_160 : decode cX6_init 160 = .ok (.bipush 24, 2) := by decide +kernel
theorem dX6_init_162 : decode cX6_init 162 = .ok (.bipush 116, 2) := by decide +kernel
theorem dX6_init_164 : decode cX6_init 164 = .ok (.bipush 105, 2) := by decide +kernel
theorem dX6_init_166 : decode cX6_init 166 = .ok (.bipush 114, 2) := by decide +kernel
theorem dX6_init_168 : decode cX6_init 168 = .ok (.bipush 101, 2) := by decide +kernel
theorem dX6_init_170 : decode cX6_init 170 = .ok (.bipush 115, 2) := by decide +kernel
theorem dX6_init_172 : decode cX6_init 172 = .ok (.bipush 32, 2) := by decide +kernel
theorem dX6_init_174 : decode cX6_init 174 = .ok (.bipush 51, 2) := by decide +kernel
theorem dX6_init_176 : decode cX6_init 176 = .ok (.bipush 32, 2) := by decide +kernel
theorem dX6_init_178 : decode cX6_init 178 = .ok (.invokevirtual 51, 3) := by decide +kernel
theorem dX6_init_181 : decode cX6_init 181 = .ok (.aload_n 0, 1) := by decide +kernel
theorem dX6_init_182 : decode cX6_init 182 = .ok (.bipush 32, 2) := by decide +kernel
theorem dX6_init_184 : decode cX6_init 184 = .ok (.bipush 59, 2) := by decide +kernel
theorem dX6_init_186 : decode cX6_init 186 = .ok (.bipush 32, 2) := by decide +kernel
theorem dX6_init_188 : decode cX6_init 188 = .ok (.bipush 114, 2) := by decide +kernel
theorem dX6_init_190 : decode cX6_init 190 = .ok (.bipush 101, 2) := by decide +kernel
theorem dX6_init_192 : decode cX6_init 192 = .ok (.bipush 115, 2) := by decide +kernel
theorem dX6_init_194 : decode cX6_init 194 = .ok (.bipush 116, 2) := by decide +kernel
theorem dX6_init_196 : decode cX6_init 196 = .ok (.bipush 115, 2) := by decide +kernel
theorem dX6_init_198 : decode cX6_init 198 = .ok (.bipush 32, 2) := by decide +kernel
theorem dX6_init_200 : decode cX6_init 200 = .ok (.invokevirtual 51, 3) := by decide +kernel
theorem dX6_init_203 : decode cX6_init 203 = .ok (.aload_n 0, 1) := by decide +kernel
theorem dX6_init_204 : decode cX6_init 204 = .ok (.bipush 40, 2) := by decide +kernel
theorem dX6_init_206 : decode cX6_init 206 = .ok (.bipush 50, 2) := by decide +kernel
theorem dX6_init_208 : decode cX6_init 208 = .ok (.bipush 32, 2) := by decide +kernel
theorem dX6_init_210 : decode cX6_init 210 = .ok (.bipush 59, 2) := by decide +kernel
theorem dX6_init_212 : decode cX6_init 212 = .ok (.bipush 32, 2) := by decide +kernel
theorem dX6_init_214 : decode cX6_init 214 = .ok (.bipush 32, 2) := by decide +kernel
theorem dX6_init_216 : decode cX6_init 216 = .ok (.bipush 32, 2) := by decide +kernel
theorem dX6_init_218 : decode cX6_init 218 = .ok (.bipush 32, 2) := by decide +kernel
theorem dX6_init_220 : decode cX6_init 220 = .ok (.bipush 32, 2) := by decide +kernel
theorem dX6_init_222 : decode cX6_init 222 = .ok (.invokevirtual 51, 3) := by decide +kernel
theorem dX6_init_225 : decode cX6_init 225 = .ok (.aload_n 0, 1) := by decide +kernel
theorem dX6_init_226 : decode cX6_init 226 = .ok (.getfield 17, 3) := by decide +kernel
theorem dX6_init_229 : decode cX6_init 229 = .ok (.iconst 0, 1) := by decide +kernel
theorem dX6_init_230 : decode cX6_init 230 = .ok (.bipush 48, 2) := by decide +kernel
theorem dX6_init_232 : decode cX6_init 232 = .ok (.iastore, 1) := by decide +kernel
theorem dX6_init_233 : decode cX6_init 233 = .ok (.aload_n 0, 1) := by decide +kernel
theorem dX6_init_234 : decode cX6_init 234 = .ok (.iconst 1, 1) := by decide +kernel
theorem dX6_init_235 : decode cX6_init 235 = .ok (.putfield 55, 3) := by decide +kernel
theorem dX6_init_238 : decode cX6_init 238 = .ok (.return_, 1) := by decide +kernel
theorem dX6_spell_0 : decode cX6_spell 0 = .ok (.aload_n 0, 1) := by decide +kernel
theorem dX6_spell_1 : decode cX6_spell 1 = .ok (.getfield 13, 3) := by decide +kernel
theorem dX6_spell_4 : decode cX6_spell 4 = .ok (.iload_n 1, 1) := by decide +kernel
theorem dX6_spell_5 : decode cX6_spell 5 = .ok (.iload_n 2, 1) := by decide +kernel
theorem dX6_spell_6 : decode cX6_spell 6 = .ok (.iastore, 1) := by decide +kernel
theorem dX6_spell_7 : decode cX6_spell 7 = .ok (.aload_n 0, 1) := by decide +kernel
theorem dX6_spell_8 : decode cX6_spell 8 = .ok (.getfield 13, 3) := by decide +kernel
theorem dX6_spell_11 : decode cX6_spell 11 = .ok (.iload_n 1, 1) := by decide +kernel
theorem dX6_spell_12 : decode cX6_spell 12 = .ok (.iconst 1, 1) := by decide +kernel
theorem dX6_spell_13 : decode cX6_spell 13 = .ok (.iadd, 1) := by decide +kernel
theorem dX6_spell_14 : decode cX6_spell 14 = .ok (.iload_n 3, 1) := by decide +kernel
theorem dX6_spell_15 : decode cX6_spell 15 = .ok (.iastore, 1) := by decide +kernel
theorem dX6_spell_16 : decode cX6_spell 16 = .ok (.aload_n 0, 1) := by decide +kernel
theorem dX6_spell_17 : decode cX6_spell 17 = .ok (.getfield 13, 3) := by decide +kernel
theorem dX6_spell_20 : decode cX6_spell 20 = .ok (.iload_n 1, 1) := by decide +kernel
theorem dX6_spell_21 : decode cX6_spell 21 = .ok (.iconst 2, 1) := by decide +kernel
theorem dX6_spell_22 : decode cX6_spell 22 = .ok (.iadd, 1) := by decide +kernel
theorem dX6_spell_23 : decode cX6_spell 23 = .ok (.iload 4, 2) := by decide +kernel
theorem dX6_spell_25 : decode cX6_spell 25 = .ok (.iastore, 1) := by decide +kernel
theorem dX6_spell_26 : decode cX6_spell 26 = .ok (.aload_n 0, 1) := by decide +kernel
theorem dX6_spell_27 : decode cX6_spell 27 = .ok (.getfield 13, 3) := by decide +kernel
theorem dX6_spell_30 : decode cX6_spell 30 = .ok (.iload_n 1, 1) := by decide +kernel
theorem dX6_spell_31 : decode cX6_spell 31 = .ok (.iconst 3, 1) := by decide +kernel
theorem dX6_spell_32 : decode cX6_spell 32 = .ok (.iadd, 1) := by decide +kernel
theorem dX6_spell_33 : decode cX6_spell 33 = .ok (.iload 5, 2) := by decide +kernel
theorem dX6_spell_35 : decode cX6_spell 35 = .ok (.iastore, 1) := by decide +kernel
theorem dX6_spell_36 : decode cX6_spell 36 = .ok (.aload_n 0, 1) := by decide +kernel
theorem dX6_spell_37 : decode cX6_spell 37 = .ok (.getfield 13, 3) := by decide +kernel
theorem dX6_spell_40 : decode cX6_spell 40 = .ok (.iload_n 1, 1) := by decide +kernel
theorem dX6_spell_41 : decode cX6_spell 41 = .ok (.iconst 4, 1) := by decide +kernel
theorem dX6_spell_42 : decode cX6_spell 42 = .ok (.iadd, 1) := by decide +kernel
theorem dX6_spell_43 : decode cX6_spell 43 = .ok (.iload 6, 2) := by decide +kernel
theorem dX6_spell_45 : decode cX6_spell 45 = .ok (.iastore, 1) := by decide +kernel
theorem dX6_spell_46 : decode cX6_spell 46 = .ok (.aload_n 0, 1) := by decide +kernel
theorem dX6_spell_47 : decode cX6_spell 47 = .ok (.getfield 13, 3) := by decide +kernel
theorem dX6_spell_50 : decode cX6_spell 50 = .ok (.iload_n 1, 1) := by decide +kernel
theorem dX6_spell_51 : decode cX6_spell 51 = .ok (.iconst 5, 1) := by decide +kernel
theorem dX6_spell_52 : decode cX6_spell 52 = .ok (.iadd, 1) := by decide +kernel
theorem dX6_spell_53 : decode cX6_spell 53 = .ok (.iload 7, 2) := by decide +kernel
theorem dX6_spell_55 : decode cX6_spell 55 = .ok (.iastore, 1) := by decide +kernel
theorem dX6_spell_56 : decode cX6_spell 56 = .ok (.aload_n 0, 1) := by decide +kernel
theorem dX6_spell_57 : decode cX6_spell 57 = .ok (.getfield 13, 3) := by decide +kernel
theorem dX6_spell_60 : decode cX6_spell 60 = .ok (.iload_n 1, 1) := by decide +kernel
theorem dX6_spell_61 : decode cX6_spell 61 = .ok (.bipush 6, 2) := by decide +kernel
theorem dX6_spell_63 : decode cX6_spell 63 = .ok (.iadd, 1) := by decide +kernel
theorem dX6_spell_64 : decode cX6_spell 64 = .ok (.iload 8, 2) := by decide +kernel
theorem dX6_spell_66 : decode cX6_spell 66 = .ok (.iastore, 1) := by decide +kernel
theorem dX6_spell_67 : decode cX6_spell 67 = .ok (.aload_n 0, 1) := by decide +kernel
theorem dX6_spell_68 : decode cX6_spell 68 = .ok (.getfield 13, 3) := by decide +kernel
theorem dX6_spell_71 : decode cX6_spell 71 = .ok (.iload_n 1, 1) := by decide +kernel
theorem dX6_spell_72 : decode cX6_spell 72 = .ok (.bipush 7, 2) := by decide +kernel
theorem dX6_spell_74 : decode cX6_spell 74 = .ok (.iadd, 1) := by decide +kernel
theorem dX6_spell_75 : decode cX6_spell 75 = .ok (.iload 9, 2) := by decide +kernel
theorem dX6_spell_77 : decode cX6_spell 77 = .ok (.iastore, 1) := by decide +kernel
theorem dX6_spell_78 : decode cX6_spell 78 = .ok (.return_, 1) := by decide +kernel
set_option maxRecDepth 20000 in
theorem dX6_isOne_0 : decode cX6_isOne 0 = .ok (.iload_n 1, 1) := by decide +kernel
theorem dX6_isOne_1 : decode cX6_isOne 1 = .ok (.i2l, 1) := by decide +kernel
theorem dX6_isOne_2 : decode cX6_isOne 2 = .ok (.lconst 0, 1) := by decide +kernel
theorem dX6_isOne_3 : decode cX6_isOne 3 = .ok (.aload_n 0, 1) := by decide +kernel
theorem dX6_isOne_4 : decode cX6_isOne 4 = .ok (.getfield 58, 3) := by decide +kernel
theorem dX6_isOne_7 : decode cX6_isOne 7 = .ok (.iconst 1, 1) := by decide +kernel
theorem dX6_isOne_8 : decode cX6_isOne 8 = .ok (.isub, 1) := by decide +kernel
theorem dX6_isOne_9 : decode cX6_isOne 9 = .ok (.i2l, 1) := by decide +kernel
theorem dX6_isOne_10 : decode cX6_isOne 10 = .ok (.invokestatic 61, 3) := by decide +kernel
theorem dX6_isOne_13 : decode cX6_isOne 13 = .ok (.ireturn, 1) := by decide +kernel
set_option maxRecDepth 20000 in
theorem dX6_areTwo_0 : decode cX6_areTwo 0 = .ok (.aload_n 0, 1) := by decide +kernel
theorem dX6_areTwo_1 : decode cX6_areTwo 1 = .ok (.iload_n 1, 1) := by decide +kernel
theorem dX6_areTwo_2 : decode cX6_areTwo 2 = .ok (.invokevirtual 65, 3) := by decide +kernel
theorem dX6_areTwo_5 : decode cX6_areTwo 5 = .ok (.ifCond .eq 20, 3) := by decide +kernel
theorem dX6_areTwo_8 : decode cX6_areTwo 8 = .ok (.aload_n 0, 1) := by decide +kernel
theorem dX6_areTwo_9 : decode cX6_areTwo 9 = .ok (.iload_n 2, 1) := by decide +kernel
theorem dX6_areTwo_10 : decode cX6_areTwo 10 = .ok (.invokevirtual 65, 3) := by decide +kernel
theorem dX6_areTwo_13 : decode cX6_areTwo 13 = .ok (.ifCond .eq 12, 3) := by decide +kernel
theorem dX6_areTwo_16 : decode cX6_areTwo 16 = .ok (.iload_n 1, 1) := by decide +kernel
theorem dX6_areTwo_17 : decode cX6_areTwo 17 = .ok (.iload_n 2, 1) := by decide +kernel
theorem dX6_areTwo_18 : decode cX6_areTwo 18 = .ok (.if_icmp .eq 7, 3) := by decide +kernel
theorem dX6_areTwo_21 : decode cX6_areTwo 21 = .ok (.iconst 1, 1) := by decide +kernel
theorem dX6_areTwo_22 : decode cX6_areTwo 22 = .ok (.goto 4, 3) := by decide +kernel
theorem dX6_areTwo_25 : decode cX6_areTwo 25 = .ok (.iconst 0, 1) := by decide +kernel
theorem dX6_areTwo_26 : decode cX6_areTwo 26 = .ok (.ireturn, 1) := by decide +kernel
set_option maxRecDepth 20000 in
theorem dX6_isTile_0 : decode cX6_isTile 0 = .ok (.iload_n 0, 1) := by decide +kernel
theorem dX6_isTile_1 : decode cX6_isTile 1 = .ok (.i2l, 1) := by decide +kernel
theorem dX6_isTile_2 : decode cX6_isTile 2 = .ok (.lconst 0, 1) := by decide +kernel
theorem dX6_isTile_3 : decode cX6_isTile 3 = .ok (.ldc2_w 69, 3) := by decide +kernel
theorem dX6_isTile_6 : decode cX6_isTile 6 = .ok (.invokestatic 61, 3) := by decide +kernel
theorem dX6_isTile_9 : decode cX6_isTile 9 = .ok (.ireturn, 1) := by decide +kernel
theorem dX6_has_0 : decode cX6_has 0 = .ok (.lload_n 0, 1) := by decide +kernel
theorem dX6_has_1 : decode cX6_has 1 = .ok (.iload_n 2, 1) := by decide +kernel
theorem dX6_has_2 : decode cX6_has 2 = .ok (.lshr, 1) := by decide +kernel
theorem dX6_has_3 : decode cX6_has 3 = .ok (.lconst 1, 1) := by decide +kernel
theorem dX6_has_4 : decode cX6_has 4 = .ok (.land, 1) := by decide +kernel
theorem dX6_has_5 : decode cX6_has 5 = .ok (.lconst 1, 1) := by decide +kernel
theorem dX6_has_6 : decode cX6_has 6 = .ok (.lcmp, 1) := by decide +kernel
theorem dX6_has_7 : decode cX6_has 7 = .ok (.ifCond .ne 7, 3) := by decide +kernel
theorem dX6_has_10 : decode cX6_has 10 = .ok (.iconst 1, 1) := by decide +kernel
theorem dX6_has_11 : decode cX6_has 11 = .ok (.goto 4, 3) := by decide +kernel
theorem dX6_has_14 : decode cX6_has 14 = .ok (.iconst 0, 1) := by decide +kernel
theorem dX6_has_15 : decode cX6_has 15 = .ok (.ireturn, 1) := by decide +kernel
theorem dX6_bitsOf_0 : decode cX6_bitsOf 0 = .ok (.iconst 0, 1) := by decide +kernel
theorem dX6_bitsOf_1 : decode cX6_bitsOf 1 = .ok (.istore_n 2, 1) := by decide +kernel
theorem dX6_bitsOf_2 : decode cX6_bitsOf 2 = .ok (.lload_n 0, 1) := by decide +kernel
theorem dX6_bitsOf_3 : decode cX6_bitsOf 3 = .ok (.lstore_n 3, 1) := by decide +kernel
theorem dX6_bitsOf_4 : decode cX6_bitsOf 4 = .ok (.lload_n 3, 1) := by decide +kernel
theorem dX6_bitsOf_5 : decode cX6_bitsOf 5 = .ok (.lconst 0, 1) := by decide +kernel
theorem dX6_bitsOf_6 : decode cX6_bitsOf 6 = .ok (.lcmp, 1) := by decide +kernel
theorem dX6_bitsOf_7 : decode cX6_bitsOf 7 = .ok (.ifCond .eq 15, 3) := by decide +kernel
theorem dX6_bitsOf_10 : decode cX6_bitsOf 10 = .ok (.iinc 2 1, 3) := by decide +kernel
theorem dX6_bitsOf_13 : decode cX6_bitsOf 13 = .ok (.lload_n 3, 1) := by decide +kernel
theorem dX6_bitsOf_14 : decode cX6_bitsOf 14 = .ok (.lload_n 3, 1) := by decide +kernel
theorem dX6_bitsOf_15 : decode cX6_bitsOf 15 = .ok (.lconst 1, 1) := by decide +kernel
theorem dX6_bitsOf_16 : decode cX6_bitsOf 16 = .ok (.lsub, 1) := by decide +kernel
theorem dX6_bitsOf_17 : decode cX6_bitsOf 17 = .ok (.land, 1) := by decide +kernel
theorem dX6_bitsOf_18 : decode cX6_bitsOf 18 = .ok (.lstore_n 3, 1) := by decide +kernel
theorem dX6_bitsOf_19 : decode cX6_bitsOf 19 = .ok (.goto (-15), 3) := by decide +kernel
theorem dX6_bitsOf_22 : decode cX6_bitsOf 22 = .ok (.iload_n 2, 1) := by decide +kernel
theorem dX6_bitsOf_23 : decode cX6_bitsOf 23 = .ok (.ireturn, 1) := by decide +kernel
set_option maxRecDepth 20000 in
theorem dX6_isOf_0 : decode cX6_isOf 0 = .ok (.iload_n 1, 1) := by decide +kernel
theorem dX6_isOf_1 : decode cX6_isOf 1 = .ok (.ifCond .eq 32, 3) := by decide +kernel
theorem dX6_isOf_4 : decode cX6_isOf 4 = .ok (.iload_n 1, 1) := by decide +kernel
theorem dX6_isOf_5 : decode cX6_isOf 5 = .ok (.iconst 3, 1) := by decide +kernel
theorem dX6_isOf_6 : decode cX6_isOf 6 = .ok (.if_icmp .lt 9, 3) := by decide +kernel
theorem dX6_isOf_9 : decode cX6_isOf 9 = .ok (.iload_n 1, 1) := by decide +kernel
theorem dX6_isOf_10 : decode cX6_isOf 10 = .ok (.bipush 11, 2) := by decide +kernel
theorem dX6_isOf_12 : decode cX6_isOf 12 = .ok (.if_icmp .ne 13, 3) := by decide +kernel
theorem dX6_isOf_15 : decode cX6_isOf 15 = .ok (.iload_n 2, 1) := by decide +kernel
theorem dX6_isOf_16 : decode cX6_isOf 16 = .ok (.invokestatic 71, 3) := by decide +kernel
theorem dX6_isOf_19 : decode cX6_isOf 19 = .ok (.ifCond .eq 18, 3) := by decide +kernel
theorem dX6_isOf_22 : decode cX6_isOf 22 = .ok (.goto 11, 3) := by decide +kernel
theorem dX6_isOf_25 : decode cX6_isOf 25 = .ok (.aload_n 0, 1) := by decide +kernel
theorem dX6_isOf_26 : decode cX6_isOf 26 = .ok (.iload_n 2, 1) := by decide +kernel
theorem dX6_isOf_27 : decode cX6_isOf 27 = .ok (.invokevirtual 65, 3) := by decide +kernel
theorem dX6_isOf_30 : decode cX6_isOf 30 = .ok (.ifCond .eq 7, 3) := by decide +kernel
theorem dX6_isOf_33 : decode cX6_isOf 33 = .ok (.iconst 1, 1) := by decide +kernel
theorem dX6_isOf_34 : decode cX6_isOf 34 = .ok (.goto 4, 3) := by decide +kernel
theorem dX6_isOf_37 : decode cX6_isOf 37 = .ok (.iconst 0, 1) := by decide +kernel
theorem dX6_isOf_38 : decode cX6_isOf 38 = .ok (.ireturn, 1) := by decide +kernel
theorem dX6_mostOf_0 : decode cX6_mostOf 0 = .ok (.iload_n 0, 1) := by decide +kernel
theorem dX6_mostOf_1 : decode cX6_mostOf 1 = .ok (.ifCond .ne 9, 3) := by decide +kernel
theorem dX6_mostOf_4 : decode cX6_mostOf 4 = .ok (.sipush 999, 3) := by decide +kernel
theorem dX6_mostOf_7 : decode cX6_mostOf 7 = .ok (.goto 34, 3) := by decide +kernel
theorem dX6_mostOf_10 : decode cX6_mostOf 10 = .ok (.iload_n 0, 1) := by decide +kernel
theorem dX6_mostOf_11 : decode cX6_mostOf 11 = .ok (.iconst 3, 1) := by decide +kernel
theorem dX6_mostOf_12 : decode cX6_mostOf 12 = .ok (.if_icmp .ge 7, 3) := by decide +kernel
theorem dX6_mostOf_15 : decode cX6_mostOf 15 = .ok (.iconst 1, 1) := by decide +kernel
theorem dX6_mostOf_16 : decode cX6_mostOf 16 = .ok (.goto 25, 3) := by decide +kernel
theorem dX6_mostOf_19 : decode cX6_mostOf 19 = .ok (.iload_n 0, 1) := by decide +kernel
theorem dX6_mostOf_20 : decode cX6_mostOf 20 = .ok (.iconst 3, 1) := by decide +kernel
theorem dX6_mostOf_21 : decode cX6_mostOf 21 = .ok (.if_icmp .ne 8, 3) := by decide +kernel
theorem dX6_mostOf_24 : decode cX6_mostOf 24 = .ok (.bipush 9, 2) := by decide +kernel
theorem dX6_mostOf_26 : decode cX6_mostOf 26 = .ok (.goto 15, 3) := by decide +kernel
theorem dX6_mostOf_29 : decode cX6_mostOf 29 = .ok (.iload_n 0, 1) := by decide +kernel
theorem dX6_mostOf_30 : decode cX6_mostOf 30 = .ok (.iconst 4, 1) := by decide +kernel
theorem dX6_mostOf_31 : decode cX6_mostOf 31 = .ok (.if_icmp .ne 8, 3) := by decide +kernel
theorem dX6_mostOf_34 : decode cX6_mostOf 34 = .ok (.bipush 63, 2) := by decide +kernel
theorem dX6_mostOf_36 : decode cX6_mostOf 36 = .ok (.goto 5, 3) := by decide +kernel
theorem dX6_mostOf_39 : decode cX6_mostOf 39 = .ok (.bipush 99, 2) := by decide +kernel
theorem dX6_mostOf_41 : decode cX6_mostOf 41 = .ok (.ireturn, 1) := by decide +kernel
set_option maxRecDepth 20000 in
theorem dX6_set_0 : decode cX6_set 0 = .ok (.iload_n 1, 1) := by decide +kernel
theorem dX6_set_1 : decode cX6_set 1 = .ok (.i2l, 1) := by decide +kernel
theorem dX6_set_2 : decode cX6_set 2 = .ok (.lconst 0, 1) := by decide +kernel
theorem dX6_set_3 : decode cX6_set 3 = .ok (.ldc2_w 74, 3) := by decide +kernel
theorem dX6_set_6 : decode cX6_set 6 = .ok (.invokestatic 61, 3) := by decide +kernel
theorem dX6_set_9 : decode cX6_set 9 = .ok (.ifCond .eq 26, 3) := by decide +kernel
theorem dX6_set_12 : decode cX6_set 12 = .ok (.aload_n 0, 1) := by decide +kernel
theorem dX6_set_13 : decode cX6_set 13 = .ok (.iload_n 1, 1) := by decide +kernel
theorem dX6_set_14 : decode cX6_set 14 = .ok (.iload_n 2, 1) := by decide +kernel
theorem dX6_set_15 : decode cX6_set 15 = .ok (.invokevirtual 76, 3) := by decide +kernel
theorem dX6_set_18 : decode cX6_set 18 = .ok (.ifCond .eq 17, 3) := by decide +kernel
theorem dX6_set_21 : decode cX6_set 21 = .ok (.iload_n 3, 1) := by decide +kernel
theorem dX6_set_22 : decode cX6_set 22 = .ok (.i2l, 1) := by decide +kernel
theorem dX6_set_23 : decode cX6_set 23 = .ok (.lconst 0, 1) := by decide +kernel
theorem dX6_set_24 : decode cX6_set 24 = .ok (.iload_n 1, 1) := by decide +kernel
theorem dX6_set_25 : decode cX6_set 25 = .ok (.invokestatic 80, 3) := by decide +kernel
theorem dX6_set_28 : decode cX6_set 28 = .ok (.i2l, 1) := by decide +kernel
theorem dX6_set_29 : decode cX6_set 29 = .ok (.invokestatic 61, 3) := by decide +kernel
theorem dX6_set_32 : decode cX6_set 32 = .ok (.ifCond .ne 6, 3) := by decide +kernel
theorem dX6_set_35 : decode cX6_set 35 = .ok (.bipush (-2), 2) := by decide +kernel
theorem dX6_set_37 : decode cX6_set 37 = .ok (.ireturn, 1) := by decide +kernel
theorem dX6_set_38 : decode cX6_set 38 = .ok (.iload_n 1, 1) := by decide +kernel
theorem dX6_set_39 : decode cX6_set 39 = .ok (.iconst 2, 1) := by decide +kernel
theorem dX6_set_40 : decode cX6_set 40 = .ok (.if_icmp .ne 11, 3) := by decide +kernel
theorem dX6_set_43 : decode cX6_set 43 = .ok (.aload_n 0, 1) := by decide +kernel
theorem dX6_set_44 : decode cX6_set 44 = .ok (.iload_n 2, 1) := by decide +kernel
theorem dX6_set_45 : decode cX6_set 45 = .ok (.invokevirtual 84, 3) := by decide +kernel
theorem dX6_set_48 : decode cX6_set 48 = .ok (.ifCond .ne 19, 3) := by decide +kernel
theorem dX6_set_51 : decode cX6_set 51 = .ok (.iload_n 1, 1) := by decide +kernel
theorem dX6_set_52 : decode cX6_set 52 = .ok (.iconst 4, 1) := by decide +kernel
theorem dX6_set_53 : decode cX6_set 53 = .ok (.if_icmp .ne 17, 3) := by decide +kernel
theorem dX6_set_56 : decode cX6_set 56 = .ok (.aload_n 0, 1) := by decide +kernel
theorem dX6_set_57 : decode cX6_set 57 = .ok (.getfield 87, 3) := by decide +kernel
theorem dX6_set_60 : decode cX6_set 60 = .ok (.iload_n 3, 1) := by decide +kernel
theorem dX6_set_61 : decode cX6_set 61 = .ok (.invokestatic 91, 3) := by decide +kernel
theorem dX6_set_64 : decode cX6_set 64 = .ok (.ifCond .eq 6, 3) := by decide +kernel
theorem dX6_set_67 : decode cX6_set 67 = .ok (.bipush (-2), 2) := by decide +kernel
theorem dX6_set_69 : decode cX6_set 69 = .ok (.ireturn, 1) := by decide +kernel
theorem dX6_set_70 : decode cX6_set 70 = .ok (.aload_n 0, 1) := by decide +kernel
theorem dX6_set_71 : decode cX6_set 71 = .ok (.iload_n 2, 1) := by decide +kernel
theorem dX6_set_72 : decode cX6_set 72 = .ok (.iload_n 1, 1) := by decide +kernel
theorem dX6_set_73 : decode cX6_set 73 = .ok (.invokevirtual 95, 3) := by decide +kernel
theorem dX6_set_76 : decode cX6_set 76 = .ok (.istore 4, 2) := by decide +kernel
theorem dX6_set_78 : decode cX6_set 78 = .ok (.aload_n 0, 1) := by decide +kernel
theorem dX6_set_79 : decode cX6_set 79 = .ok (.iload_n 1, 1) := by decide +kernel
theorem dX6_set_80 : decode cX6_set 80 = .ok (.iload_n 2, 1) := by decide +kernel
theorem dX6_set_81 : decode cX6_set 81 = .ok (.iload_n 3, 1) := by decide +kernel
theorem dX6_set_82 : decode cX6_set 82 = .ok (.invokevirtual 99, 3) := by decide +kernel
theorem dX6_set_85 : decode cX6_set 85 = .ok (.iload 4, 2) := by decide +kernel
theorem dX6_set_87 : decode cX6_set 87 = .ok (.ireturn, 1) := by decide +kernel
theorem dX6_lays_0 : decode cX6_lays 0 = .ok (.iload_n 1, 1) := by decide +kernel
theorem dX6_lays_1 : decode cX6_lays 1 = .ok (.ifCond .ne 11, 3) := by decide +kernel
theorem dX6_lays_4 : decode cX6_lays 4 = .ok (.aload_n 0, 1) := by decide +kernel
theorem dX6_lays_5 : decode cX6_lays 5 = .ok (.iload_n 3, 1) := by decide +kernel
theorem dX6_lays_6 : decode cX6_lays 6 = .ok (.putfield 103, 3) := by decide +kernel
theorem dX6_lays_9 : decode cX6_lays 9 = .ok (.goto 88, 3) := by decide +kernel
theorem dX6_lays_12 : decode cX6_lays 12 = .ok (.iload_n 1, 1) := by decide +kernel
theorem dX6_lays_13 : decode cX6_lays 13 = .ok (.iconst 1, 1) := by decide +kernel
theorem dX6_lays_14 : decode cX6_lays 14 = .ok (.if_icmp .ne 27, 3) := by decide +kernel
theorem dX6_lays_17 : decode cX6_lays 17 = .ok (.aload_n 0, 1) := by decide +kernel
theorem dX6_lays_18 : decode cX6_lays 18 = .ok (.aload_n 0, 1) := by decide +kernel
theorem dX6_lays_19 : decode cX6_lays 19 = .ok (.getfield 106, 3) := by decide +kernel
theorem dX6_lays_22 : decode cX6_lays 22 = .ok (.lconst 1, 1) := by decide +kernel
theorem dX6_lays_23 : decode cX6_lays 23 = .ok (.iload_n 2, 1) := by decide +kernel
theorem dX6_lays_24 : decode cX6_lays 24 = .ok (.lshl, 1) := by decide +kernel
theorem dX6_lays_25 : decode cX6_lays 25 = .ok (.ldc2_w 109, 3) := by decide +kernel
theorem dX6_lays_28 : decode cX6_lays 28 = .ok (.lxor, 1) := by decide +kernel
theorem dX6_lays_29 : decode cX6_lays 29 = .ok (.land, 1) := by decide +kernel
theorem dX6_lays_30 : decode cX6_lays 30 = .ok (.iload_n 3, 1) := by decide +kernel
theorem dX6_lays_31 : decode cX6_lays 31 = .ok (.i2l, 1) := by decide +kernel
theorem dX6_lays_32 : decode cX6_lays 32 = .ok (.iload_n 2, 1) := by decide +kernel
theorem dX6_lays_33 : decode cX6_lays 33 = .ok (.lshl, 1) := by decide +kernel
theorem dX6_lays_34 : decode cX6_lays 34 = .ok (.lor, 1) := by decide +kernel
theorem dX6_lays_35 : decode cX6_lays 35 = .ok (.putfield 106, 3) := by decide +kernel
theorem dX6_lays_38 : decode cX6_lays 38 = .ok (.goto 59, 3) := by decide +kernel
theorem dX6_lays_41 : decode cX6_lays 41 = .ok (.iload_n 1, 1) := by decide +kernel
theorem dX6_lays_42 : decode cX6_lays 42 = .ok (.iconst 2, 1) := by decide +kernel
theorem dX6_lays_43 : decode cX6_lays 43 = .ok (.if_icmp .ne 27, 3) := by decide +kernel
theorem dX6_lays_46 : decode cX6_lays 46 = .ok (.aload_n 0, 1) := by decide +kernel
theorem dX6_lays_47 : decode cX6_lays 47 = .ok (.aload_n 0, 1) := by decide +kernel
theorem dX6_lays_48 : decode cX6_lays 48 = .ok (.getfield 87, 3) := by decide +kernel
theorem dX6_lays_51 : decode cX6_lays 51 = .ok (.lconst 1, 1) := by decide +kernel
theorem dX6_lays_52 : decode cX6_lays 52 = .ok (.iload_n 2, 1) := by decide +kernel
theorem dX6_lays_53 : decode cX6_lays 53 = .ok (.lshl, 1) := by decide +kernel
theorem dX6_lays_54 : decode cX6_lays 54 = .ok (.ldc2_w 109, 3) := by decide +kernel
theorem dX6_lays_57 : decode cX6_lays 57 = .ok (.lxor, 1) := by decide +kernel
theorem dX6_lays_58 : decode cX6_lays 58 = .ok (.land, 1) := by decide +kernel
theorem dX6_lays_59 : decode cX6_lays 59 = .ok (.iload_n 3, 1) := by decide +kernel
theorem dX6_lays_60 : decode cX6_lays 60 = .ok (.i2l, 1) := by decide +kernel
theorem dX6_lays_61 : decode cX6_lays 61 = .ok (.iload_n 2, 1) := by decide +kernel
theorem dX6_lays_62 : decode cX6_lays 62 = .ok (.lshl, 1) := by decide +kernel
theorem dX6_lays_63 : decode cX6_lays 63 = .ok (.lor, 1) := by decide +kernel
theorem dX6_lays_64 : decode cX6_lays 64 = .ok (.putfield 87, 3) := by decide +kernel
theorem dX6_lays_67 : decode cX6_lays 67 = .ok (.goto 30, 3) := by decide +kernel
theorem dX6_lays_70 : decode cX6_lays 70 = .ok (.iload_n 1, 1) := by decide +kernel
theorem dX6_lays_71 : decode cX6_lays 71 = .ok (.bipush 7, 2) := by decide +kernel
theorem dX6_lays_73 : decode cX6_lays 73 = .ok (.if_icmp .ge 19, 3) := by decide +kernel
theorem dX6_lays_76 : decode cX6_lays 76 = .ok (.aload_n 0, 1) := by decide +kernel
theorem dX6_lays_77 : decode cX6_lays 77 = .ok (.getfield 23, 3) := by decide +kernel
theorem dX6_lays_80 : decode cX6_lays 80 = .ok (.iconst 4, 1) := by decide +kernel
theorem dX6_lays_81 : decode cX6_lays 81 = .ok (.iload_n 2, 1) := by decide +kernel
theorem dX6_lays_82 : decode cX6_lays 82 = .ok (.imul, 1) := by decide +kernel
theorem dX6_lays_83 : decode cX6_lays 83 = .ok (.iload_n 1, 1) := by decide +kernel
theorem dX6_lays_84 : decode cX6_lays 84 = .ok (.iadd, 1) := by decide +kernel
theorem dX6_lays_85 : decode cX6_lays 85 = .ok (.iconst 3, 1) := by decide +kernel
theorem dX6_lays_86 : decode cX6_lays 86 = .ok (.isub, 1) := by decide +kernel
theorem dX6_lays_87 : decode cX6_lays 87 = .ok (.iload_n 3, 1) := by decide +kernel
theorem dX6_lays_88 : decode cX6_lays 88 = .ok (.iastore, 1) := by decide +kernel
theorem dX6_lays_89 : decode cX6_lays 89 = .ok (.goto 8, 3) := by decide +kernel
theorem dX6_lays_92 : decode cX6_lays 92 = .ok (.aload_n 0, 1) := by decide +kernel
theorem dX6_lays_93 : decode cX6_lays 93 = .ok (.iload_n 3, 1) := by decide +kernel
theorem dX6_lays_94 : decode cX6_lays 94 = .ok (.putfield 111, 3) := by decide +kernel
theorem dX6_lays_97 : decode cX6_lays 97 = .ok (.return_, 1) := by decide +kernel
set_option maxRecDepth 20000 in
theorem dX6_party_0 : decode cX6_party 0 = .ok (.iload_n 1, 1) := by decide +kernel
theorem dX6_party_1 : decode cX6_party 1 = .ok (.i2l, 1) := by decide +kernel
theorem dX6_party_2 : decode cX6_party 2 = .ok (.lconst 0, 1) := by decide +kernel
theorem dX6_party_3 : decode cX6_party 3 = .ok (.ldc2_w 74, 3) := by decide +kernel
theorem dX6_party_6 : decode cX6_party 6 = .ok (.invokestatic 61, 3) := by decide +kernel
theorem dX6_party_9 : decode cX6_party 9 = .ok (.ifCond .eq 33, 3) := by decide +kernel
theorem dX6_party_12 : decode cX6_party 12 = .ok (.iload_n 2, 1) := by decide +kernel
theorem dX6_party_13 : decode cX6_party 13 = .ok (.i2l, 1) := by decide +kernel
theorem dX6_party_14 : decode cX6_party 14 = .ok (.lconst 0, 1) := by decide +kernel
theorem dX6_party_15 : decode cX6_party 15 = .ok (.ldc2_w 114, 3) := by decide +kernel
theorem dX6_party_18 : decode cX6_party 18 = .ok (.invokestatic 61, 3) := by decide +kernel
theorem dX6_party_21 : decode cX6_party 21 = .ok (.ifCond .eq 21, 3) := by decide +kernel
theorem dX6_party_24 : decode cX6_party 24 = .ok (.iload_n 3, 1) := by decide +kernel
theorem dX6_party_25 : decode cX6_party 25 = .ok (.invokestatic 71, 3) := by decide +kernel
theorem dX6_party_28 : decode cX6_party 28 = .ok (.ifCond .eq 14, 3) := by decide +kernel
theorem dX6_party_31 : decode cX6_party 31 = .ok (.aload_n 0, 1) := by decide +kernel
theorem dX6_party_32 : decode cX6_party 32 = .ok (.getfield 87, 3) := by decide +kernel
theorem dX6_party_35 : decode cX6_party 35 = .ok (.iload_n 3, 1) := by decide +kernel
theorem dX6_party_36 : decode cX6_party 36 = .ok (.invokestatic 91, 3) := by decide +kernel
theorem dX6_party_39 : decode cX6_party 39 = .ok (.ifCond .eq 6, 3) := by decide +kernel
theorem dX6_party_42 : decode cX6_party 42 = .ok (.bipush (-2), 2) := by decide +kernel
theorem dX6_party_44 : decode cX6_party 44 = .ok (.ireturn, 1) := by decide +kernel
theorem dX6_party_45 : decode cX6_party 45 = .ok (.aload_n 0, 1) := by decide +kernel
theorem dX6_party_46 : decode cX6_party 46 = .ok (.getfield 58, 3) := by decide +kernel
theorem dX6_party_49 : decode cX6_party 49 = .ok (.iconst 5, 1) := by decide +kernel
theorem dX6_party_50 : decode cX6_party 50 = .ok (.if_icmp .ne 6, 3) := by decide +kernel
theorem dX6_party_53 : decode cX6_party 53 = .ok (.bipush (-4), 2) := by decide +kernel
theorem dX6_party_55 : decode cX6_party 55 = .ok (.ireturn, 1) := by decide +kernel
theorem dX6_party_56 : decode cX6_party 56 = .ok (.aload_n 0, 1) := by decide +kernel
theorem dX6_party_57 : decode cX6_party 57 = .ok (.getfield 23, 3) := by decide +kernel
theorem dX6_party_60 : decode cX6_party 60 = .ok (.iconst 4, 1) := by decide +kernel
theorem dX6_party_61 : decode cX6_party 61 = .ok (.aload_n 0, 1) := by decide +kernel
theorem dX6_party_62 : decode cX6_party 62 = .ok (.getfield 58, 3) := by decide +kernel
theorem dX6_party_65 : decode cX6_party 65 = .ok (.imul, 1) := by decide +kernel
theorem dX6_party_66 : decode cX6_party 66 = .ok (.iload_n 2, 1) := by decide +kernel
theorem dX6_party_67 : decode cX6_party 67 = .ok (.iastore, 1) := by decide +kernel
theorem dX6_party_68 : decode cX6_party 68 = .ok (.aload_n 0, 1) := by decide +kernel
theorem dX6_party_69 : decode cX6_party 69 = .ok (.getfield 23, 3) := by decide +kernel
theorem dX6_party_72 : decode cX6_party 72 = .ok (.iconst 4, 1) := by decide +kernel
theorem dX6_party_73 : decode cX6_party 73 = .ok (.aload_n 0, 1) := by decide +kernel
theorem dX6_party_74 : decode cX6_party 74 = .ok (.getfield 58, 3) := by decide +kernel
theorem dX6_party_77 : decode cX6_party 77 = .ok (.imul, 1) := by decide +kernel
theorem dX6_party_78 : decode cX6_party 78 = .ok (.iconst 1, 1) := by decide +kernel
theorem dX6_party_79 : decode cX6_party 79 = .ok (.iadd, 1) := by decide +kernel
theorem dX6_party_80 : decode cX6_party 80 = .ok (.iload_n 3, 1) := by decide +kernel
theorem dX6_party_81 : decode cX6_party 81 = .ok (.iastore, 1) := by decide +kernel
theorem dX6_party_82 : decode cX6_party 82 = .ok (.aload_n 0, 1) := by decide +kernel
theorem dX6_party_83 : decode cX6_party 83 = .ok (.getfield 23, 3) := by decide +kernel
theorem dX6_party_86 : decode cX6_party 86 = .ok (.iconst 4, 1) := by decide +kernel
theorem dX6_party_87 : decode cX6_party 87 = .ok (.aload_n 0, 1) := by decide +kernel
theorem dX6_party_88 : decode cX6_party 88 = .ok (.getfield 58, 3) := by decide +kernel
theorem dX6_party_91 : decode cX6_party 91 = .ok (.imul, 1) := by decide +kernel
theorem dX6_party_92 : decode cX6_party 92 = .ok (.iconst 2, 1) := by decide +kernel
theorem dX6_party_93 : decode cX6_party 93 = .ok (.iadd, 1) := by decide +kernel
theorem dX6_party_94 : decode cX6_party 94 = .ok (.iconst 0, 1) := by decide +kernel
theorem dX6_party_95 : decode cX6_party 95 = .ok (.iastore, 1) := by decide +kernel
theorem dX6_party_96 : decode cX6_party 96 = .ok (.aload_n 0, 1) := by decide +kernel
theorem dX6_party_97 : decode cX6_party 97 = .ok (.getfield 23, 3) := by decide +kernel
theorem dX6_party_100 : decode cX6_party 100 = .ok (.iconst 4, 1) := by decide +kernel
theorem dX6_party_101 : decode cX6_party 101 = .ok (.aload_n 0, 1) := by decide +kernel
theorem dX6_party_102 : decode cX6_party 102 = .ok (.getfield 58, 3) := by decide +kernel
theorem dX6_party_105 : decode cX6_party 105 = .ok (.imul, 1) := by decide +kernel
theorem dX6_party_106 : decode cX6_party 106 = .ok (.iconst 3, 1) := by decide +kernel
theorem dX6_party_107 : decode cX6_party 107 = .ok (.iadd, 1) := by decide +kernel
theorem dX6_party_108 : decode cX6_party 108 = .ok (.iload_n 1, 1) := by decide +kernel
theorem dX6_party_109 : decode cX6_party 109 = .ok (.iastore, 1) := by decide +kernel
theorem dX6_party_110 : decode cX6_party 110 = .ok (.aload_n 0, 1) := by decide +kernel
theorem dX6_party_111 : decode cX6_party 111 = .ok (.dup, 1) := by decide +kernel
theorem dX6_party_112 : decode cX6_party 112 = .ok (.getfield 58, 3) := by decide +kernel
theorem dX6_party_115 : decode cX6_party 115 = .ok (.iconst 1, 1) := by decide +kernel
theorem dX6_party_116 : decode cX6_party 116 = .ok (.iadd, 1) := by decide +kernel
theorem dX6_party_117 : decode cX6_party 117 = .ok (.putfield 58, 3) := by decide +kernel
theorem dX6_party_120 : decode cX6_party 120 = .ok (.aload_n 0, 1) := by decide +kernel
theorem dX6_party_121 : decode cX6_party 121 = .ok (.getfield 58, 3) := by decide +kernel
theorem dX6_party_124 : decode cX6_party 124 = .ok (.iconst 1, 1) := by decide +kernel
theorem dX6_party_125 : decode cX6_party 125 = .ok (.isub, 1) := by decide +kernel
theorem dX6_party_126 : decode cX6_party 126 = .ok (.ireturn, 1) := by decide +kernel
set_option maxRecDepth 20000 in
theorem dX6_told_0 : decode cX6_told 0 = .ok (.iload_n 2, 1) := by decide +kernel
theorem dX6_told_1 : decode cX6_told 1 = .ok (.i2l, 1) := by decide +kernel
theorem dX6_told_2 : decode cX6_told 2 = .ok (.lconst 0, 1) := by decide +kernel
theorem dX6_told_3 : decode cX6_told 3 = .ok (.ldc2_w 116, 3) := by decide +kernel
theorem dX6_told_6 : decode cX6_told 6 = .ok (.invokestatic 61, 3) := by decide +kernel
theorem dX6_told_9 : decode cX6_told 9 = .ok (.ifCond .eq 12, 3) := by decide +kernel
theorem dX6_told_12 : decode cX6_told 12 = .ok (.aload_n 0, 1) := by decide +kernel
theorem dX6_told_13 : decode cX6_told 13 = .ok (.iload_n 2, 1) := by decide +kernel
theorem dX6_told_14 : decode cX6_told 14 = .ok (.iload_n 1, 1) := by decide +kernel
theorem dX6_told_15 : decode cX6_told 15 = .ok (.invokevirtual 76, 3) := by decide +kernel
theorem dX6_told_18 : decode cX6_told 18 = .ok (.ifCond .ne 7, 3) := by decide +kernel
theorem dX6_told_21 : decode cX6_told 21 = .ok (.sipush (-1000), 3) := by decide +kernel
theorem dX6_told_24 : decode cX6_told 24 = .ok (.ireturn, 1) := by decide +kernel
theorem dX6_told_25 : decode cX6_told 25 = .ok (.iload_n 2, 1) := by decide +kernel
theorem dX6_told_26 : decode cX6_told 26 = .ok (.iconst 3, 1) := by decide +kernel
theorem dX6_told_27 : decode cX6_told 27 = .ok (.if_icmp .ge 43, 3) := by decide +kernel
theorem dX6_told_30 : decode cX6_told 30 = .ok (.iload_n 2, 1) := by decide +kernel
theorem dX6_told_31 : decode cX6_told 31 = .ok (.ifCond .ne 10, 3) := by decide +kernel
theorem dX6_told_34 : decode cX6_told 34 = .ok (.aload_n 0, 1) := by decide +kernel
theorem dX6_told_35 : decode cX6_told 35 = .ok (.getfield 103, 3) := by decide +kernel
theorem dX6_told_38 : decode cX6_told 38 = .ok (.goto 31, 3) := by decide +kernel
theorem dX6_told_41 : decode cX6_told 41 = .ok (.iload_n 2, 1) := by decide +kernel
theorem dX6_told_42 : decode cX6_told 42 = .ok (.iconst 1, 1) := by decide +kernel
theorem dX6_told_43 : decode cX6_told 43 = .ok (.if_icmp .ne 10, 3) := by decide +kernel
theorem dX6_told_46 : decode cX6_told 46 = .ok (.aload_n 0, 1) := by decide +kernel
theorem dX6_told_47 : decode cX6_told 47 = .ok (.getfield 106, 3) := by decide +kernel
theorem dX6_told_50 : decode cX6_told 50 = .ok (.goto 7, 3) := by decide +kernel
theorem dX6_told_53 : decode cX6_told 53 = .ok (.aload_n 0, 1) := by decide +kernel
theorem dX6_told_54 : decode cX6_told 54 = .ok (.getfield 87, 3) := by decide +kernel
theorem dX6_told_57 : decode cX6_told 57 = .ok (.iload_n 1, 1) := by decide +kernel
theorem dX6_told_58 : decode cX6_told 58 = .ok (.invokestatic 91, 3) := by decide +kernel
theorem dX6_told_61 : decode cX6_told 61 = .ok (.ifCond .eq 7, 3) := by decide +kernel
theorem dX6_told_64 : decode cX6_told 64 = .ok (.iconst 1, 1) := by decide +kernel
theorem dX6_told_65 : decode cX6_told 65 = .ok (.goto 4, 3) := by decide +kernel
theorem dX6_told_68 : decode cX6_told 68 = .ok (.iconst 0, 1) := by decide +kernel
theorem dX6_told_69 : decode cX6_told 69 = .ok (.ireturn, 1) := by decide +kernel
theorem dX6_told_70 : decode cX6_told 70 = .ok (.iload_n 2, 1) := by decide +kernel
theorem dX6_told_71 : decode cX6_told 71 = .ok (.bipush 7, 2) := by decide +kernel
theorem dX6_told_73 : decode cX6_told 73 = .ok (.if_icmp .ge 16, 3) := by decide +kernel
theorem dX6_told_76 : decode cX6_told 76 = .ok (.aload_n 0, 1) := by decide +kernel
theorem dX6_told_77 : decode cX6_told 77 = .ok (.getfield 23, 3) := by decide +kernel
theorem dX6_told_80 : decode cX6_told 80 = .ok (.iconst 4, 1) := by decide +kernel
theorem dX6_told_81 : decode cX6_told 81 = .ok (.iload_n 1, 1) := by decide +kernel
theorem dX6_told_82 : decode cX6_told 82 = .ok (.imul, 1) := by decide +kernel
theorem dX6_told_83 : decode cX6_told 83 = .ok (.iload_n 2, 1) := by decide +kernel
theorem dX6_told_84 : decode cX6_told 84 = .ok (.iadd, 1) := by decide +kernel
theorem dX6_told_85 : decode cX6_told 85 = .ok (.iconst 3, 1) := by decide +kernel
theorem dX6_told_86 : decode cX6_told 86 = .ok (.isub, 1) := by decide +kernel
theorem dX6_told_87 : decode cX6_told 87 = .ok (.iaload, 1) := by decide +kernel
theorem dX6_told_88 : decode cX6_told 88 = .ok (.ireturn, 1) := by decide +kernel
theorem dX6_told_89 : decode cX6_told 89 = .ok (.iload_n 2, 1) := by decide +kernel
theorem dX6_told_90 : decode cX6_told 90 = .ok (.bipush 7, 2) := by decide +kernel
theorem dX6_told_92 : decode cX6_told 92 = .ok (.if_icmp .ne 11, 3) := by decide +kernel
theorem dX6_told_95 : decode cX6_told 95 = .ok (.aload_n 0, 1) := by decide +kernel
theorem dX6_told_96 : decode cX6_told 96 = .ok (.iload_n 1, 1) := by decide +kernel
theorem dX6_told_97 : decode cX6_told 97 = .ok (.invokevirtual 118, 3) := by decide +kernel
theorem dX6_told_100 : decode cX6_told 100 = .ok (.goto 50, 3) := by decide +kernel
theorem dX6_told_103 : decode cX6_told 103 = .ok (.iload_n 2, 1) := by decide +kernel
theorem dX6_told_104 : decode cX6_told 104 = .ok (.bipush 8, 2) := by decide +kernel
theorem dX6_told_106 : decode cX6_told 106 = .ok (.if_icmp .ne 11, 3) := by decide +kernel
theorem dX6_told_109 : decode cX6_told 109 = .ok (.aload_n 0, 1) := by decide +kernel
theorem dX6_told_110 : decode cX6_told 110 = .ok (.iload_n 1, 1) := by decide +kernel
theorem dX6_told_111 : decode cX6_told 111 = .ok (.invokevirtual 121, 3) := by decide +kernel
theorem dX6_told_114 : decode cX6_told 114 = .ok (.goto 36, 3) := by decide +kernel
theorem dX6_told_117 : decode cX6_told 117 = .ok (.iload_n 2, 1) := by decide +kernel
theorem dX6_told_118 : decode cX6_told 118 = .ok (.bipush 9, 2) := by decide +kernel
theorem dX6_told_120 : decode cX6_told 120 = .ok (.if_icmp .ne 11, 3) := by decide +kernel
theorem dX6_told_123 : decode cX6_told 123 = .ok (.aload_n 0, 1) := by decide +kernel
theorem dX6_told_124 : decode cX6_told 124 = .ok (.iload_n 1, 1) := by decide +kernel
theorem dX6_told_125 : decode cX6_told 125 = .ok (.invokevirtual 124, 3) := by decide +kernel
theorem dX6_told_128 : decode cX6_told 128 = .ok (.goto 22, 3) := by decide +kernel
theorem dX6_told_131 : decode cX6_told 131 = .ok (.iload_n 2, 1) := by decide +kernel
theorem dX6_told_132 : decode cX6_told 132 = .ok (.bipush 10, 2) := by decide +kernel
theorem dX6_told_134 : decode cX6_told 134 = .ok (.if_icmp .ne 11, 3) := by decide +kernel
theorem dX6_told_137 : decode cX6_told 137 = .ok (.aload_n 0, 1) := by decide +kernel
theorem dX6_told_138 : decode cX6_told 138 = .ok (.iload_n 1, 1) := by decide +kernel
theorem dX6_told_139 : decode cX6_told 139 = .ok (.invokevirtual 127, 3) := by decide +kernel
theorem dX6_told_142 : decode cX6_told 142 = .ok (.goto 8, 3) := by decide +kernel
theorem dX6_told_145 : decode cX6_told 145 = .ok (.aload_n 0, 1) := by decide +kernel
theorem dX6_told_146 : decode cX6_told 146 = .ok (.iload_n 1, 1) := by decide +kernel
theorem dX6_told_147 : decode cX6_told 147 = .ok (.invokevirtual 84, 3) := by decide +kernel
theorem dX6_told_150 : decode cX6_told 150 = .ok (.ireturn, 1) := by decide +kernel
theorem dX6_onOf_0 : decode cX6_onOf 0 = .ok (.aload_n 0, 1) := by decide +kernel
theorem dX6_onOf_1 : decode cX6_onOf 1 = .ok (.getfield 23, 3) := by decide +kernel
theorem dX6_onOf_4 : decode cX6_onOf 4 = .ok (.iconst 4, 1) := by decide +kernel
theorem dX6_onOf_5 : decode cX6_onOf 5 = .ok (.iload_n 1, 1) := by decide +kernel
theorem dX6_onOf_6 : decode cX6_onOf 6 = .ok (.imul, 1) := by decide +kernel
theorem dX6_onOf_7 : decode cX6_onOf 7 = .ok (.iconst 1, 1) := by decide +kernel
theorem dX6_onOf_8 : decode cX6_onOf 8 = .ok (.iadd, 1) := by decide +kernel
theorem dX6_onOf_9 : decode cX6_onOf 9 = .ok (.iaload, 1) := by decide +kernel
theorem dX6_onOf_10 : decode cX6_onOf 10 = .ok (.ireturn, 1) := by decide +kernel
set_option maxRecDepth 20000 in
theorem dX6_whoOn_0 : decode cX6_whoOn 0 = .ok (.iconst 0, 1) := by decide +kernel
theorem dX6_whoOn_1 : decode cX6_whoOn 1 = .ok (.istore_n 2, 1) := by decide +kernel
theorem dX6_whoOn_2 : decode cX6_whoOn 2 = .ok (.iconst 0, 1) := by decide +kernel
theorem dX6_whoOn_3 : decode cX6_whoOn 3 = .ok (.istore_n 3, 1) := by decide +kernel
theorem dX6_whoOn_4 : decode cX6_whoOn 4 = .ok (.iload_n 3, 1) := by decide +kernel
theorem dX6_whoOn_5 : decode cX6_whoOn 5 = .ok (.aload_n 0, 1) := by decide +kernel
theorem dX6_whoOn_6 : decode cX6_whoOn 6 = .ok (.getfield 58, 3) := by decide +kernel
theorem dX6_whoOn_9 : decode cX6_whoOn 9 = .ok (.if_icmp .ge 28, 3) := by decide +kernel
theorem dX6_whoOn_12 : decode cX6_whoOn 12 = .ok (.iload_n 2, 1) := by decide +kernel
theorem dX6_whoOn_13 : decode cX6_whoOn 13 = .ok (.aload_n 0, 1) := by decide +kernel
theorem dX6_whoOn_14 : decode cX6_whoOn 14 = .ok (.iload_n 3, 1) := by decide +kernel
theorem dX6_whoOn_15 : decode cX6_whoOn 15 = .ok (.invokevirtual 130, 3) := by decide +kernel
theorem dX6_whoOn_18 : decode cX6_whoOn 18 = .ok (.iload_n 1, 1) := by decide +kernel
theorem dX6_whoOn_19 : decode cX6_whoOn 19 = .ok (.if_icmp .ne 7, 3) := by decide +kernel
theorem dX6_whoOn_22 : decode cX6_whoOn 22 = .ok (.iconst 1, 1) := by decide +kernel
theorem dX6_whoOn_23 : decode cX6_whoOn 23 = .ok (.goto 4, 3) := by decide +kernel
theorem dX6_whoOn_26 : decode cX6_whoOn 26 = .ok (.iconst 0, 1) := by decide +kernel
theorem dX6_whoOn_27 : decode cX6_whoOn 27 = .ok (.iload_n 3, 1) := by decide +kernel
theorem dX6_whoOn_28 : decode cX6_whoOn 28 = .ok (.ishl, 1) := by decide +kernel
theorem dX6_whoOn_29 : decode cX6_whoOn 29 = .ok (.ior, 1) := by decide +kernel
theorem dX6_whoOn_30 : decode cX6_whoOn 30 = .ok (.istore_n 2, 1) := by decide +kernel
theorem dX6_whoOn_31 : decode cX6_whoOn 31 = .ok (.iinc 3 1, 3) := by decide +kernel
theorem dX6_whoOn_34 : decode cX6_whoOn 34 = .ok (.goto (-30), 3) := by decide +kernel
theorem dX6_whoOn_37 : decode cX6_whoOn 37 = .ok (.iload_n 2, 1) := by decide +kernel
theorem dX6_whoOn_38 : decode cX6_whoOn 38 = .ok (.ireturn, 1) := by decide +kernel
set_option maxRecDepth 20000 in
theorem dX6_stoodOn_0 : decode cX6_stoodOn 0 = .ok (.lconst 0, 1) := by decide +kernel
theorem dX6_stoodOn_1 : decode cX6_stoodOn 1 = .ok (.lstore_n 1, 1) := by decide +kernel
theorem dX6_stoodOn_2 : decode cX6_stoodOn 2 = .ok (.iconst 0, 1) := by decide +kernel
theorem dX6_stoodOn_3 : decode cX6_stoodOn 3 = .ok (.istore_n 3, 1) := by decide +kernel
theorem dX6_stoodOn_4 : decode cX6_stoodOn 4 = .ok (.iload_n 3, 1) := by decide +kernel
theorem dX6_stoodOn_5 : decode cX6_stoodOn 5 = .ok (.aload_n 0, 1) := by decide +kernel
theorem dX6_stoodOn_6 : decode cX6_stoodOn 6 = .ok (.getfield 58, 3) := by decide +kernel
theorem dX6_stoodOn_9 : decode cX6_stoodOn 9 = .ok (.if_icmp .ge 19, 3) := by decide +kernel
theorem dX6_stoodOn_12 : decode cX6_stoodOn 12 = .ok (.lload_n 1, 1) := by decide +kernel
theorem dX6_stoodOn_13 : decode cX6_stoodOn 13 = .ok (.lconst 1, 1) := by decide +kernel
theorem dX6_stoodOn_14 : decode cX6_stoodOn 14 = .ok (.aload_n 0, 1) := by decide +kernel
theorem dX6_stoodOn_15 : decode cX6_stoodOn 15 = .ok (.iload_n 3, 1) := by decide +kernel
theorem dX6_stoodOn_16 : decode cX6_stoodOn 16 = .ok (.invokevirtual 130, 3) := by decide +kernel
theorem dX6_stoodOn_19 : decode cX6_stoodOn 19 = .ok (.lshl, 1) := by decide +kernel
theorem dX6_stoodOn_20 : decode cX6_stoodOn 20 = .ok (.lor, 1) := by decide +kernel
theorem dX6_stoodOn_21 : decode cX6_stoodOn 21 = .ok (.lstore_n 1, 1) := by decide +kernel
theorem dX6_stoodOn_22 : decode cX6_stoodOn 22 = .ok (.iinc 3 1, 3) := by decide +kernel
theorem dX6_stoodOn_25 : decode cX6_stoodOn 25 = .ok (.goto (-21), 3) := by decide +kernel
theorem dX6_stoodOn_28 : decode cX6_stoodOn 28 = .ok (.lload_n 1, 1) := by decide +kernel
theorem dX6_stoodOn_29 : decode cX6_stoodOn 29 = .ok (.lreturn, 1) := by decide +kernel
set_option maxRecDepth 20000 in
theorem dX6_floor_0 : decode cX6_floor 0 = .ok (.iload_n 1, 1) := by decide +kernel
theorem dX6_floor_1 : decode cX6_floor 1 = .ok (.i2l, 1) := by decide +kernel
theorem dX6_floor_2 : decode cX6_floor 2 = .ok (.lconst 0, 1) := by decide +kernel
theorem dX6_floor_3 : decode cX6_floor 3 = .ok (.ldc2_w 133, 3) := by decide +kernel
theorem dX6_floor_6 : decode cX6_floor 6 = .ok (.invokestatic 61, 3) := by decide +kernel
theorem dX6_floor_9 : decode cX6_floor 9 = .ok (.ifCond .ne 7, 3) := by decide +kernel
theorem dX6_floor_12 : decode cX6_floor 12 = .ok (.ldc2_w 135, 3) := by decide +kernel
theorem dX6_floor_15 : decode cX6_floor 15 = .ok (.lreturn, 1) := by decide +kernel
theorem dX6_floor_16 : decode cX6_floor 16 = .ok (.iload_n 1, 1) := by decide +kernel
theorem dX6_floor_17 : decode cX6_floor 17 = .ok (.ifCond .ne 10, 3) := by decide +kernel
theorem dX6_floor_20 : decode cX6_floor 20 = .ok (.aload_n 0, 1) := by decide +kernel
theorem dX6_floor_21 : decode cX6_floor 21 = .ok (.getfield 106, 3) := by decide +kernel
theorem dX6_floor_24 : decode cX6_floor 24 = .ok (.goto 19, 3) := by decide +kernel
theorem dX6_floor_27 : decode cX6_floor 27 = .ok (.iload_n 1, 1) := by decide +kernel
theorem dX6_floor_28 : decode cX6_floor 28 = .ok (.iconst 1, 1) := by decide +kernel
theorem dX6_floor_29 : decode cX6_floor 29 = .ok (.if_icmp .ne 10, 3) := by decide +kernel
theorem dX6_floor_32 : decode cX6_floor 32 = .ok (.aload_n 0, 1) := by decide +kernel
theorem dX6_floor_33 : decode cX6_floor 33 = .ok (.getfield 87, 3) := by decide +kernel
theorem dX6_floor_36 : decode cX6_floor 36 = .ok (.goto 7, 3) := by decide +kernel
theorem dX6_floor_39 : decode cX6_floor 39 = .ok (.aload_n 0, 1) := by decide +kernel
theorem dX6_floor_40 : decode cX6_floor 40 = .ok (.invokevirtual 137, 3) := by decide +kernel
theorem dX6_floor_43 : decode cX6_floor 43 = .ok (.lreturn, 1) := by decide +kernel
set_option maxRecDepth 20000 in
theorem dX6_feed_0 : decode cX6_feed 0 = .ok (.iload_n 1, 1) := by decide +kernel
theorem dX6_feed_1 : decode cX6_feed 1 = .ok (.i2l, 1) := by decide +kernel
theorem dX6_feed_2 : decode cX6_feed 2 = .ok (.lconst 0, 1) := by decide +kernel
theorem dX6_feed_3 : decode cX6_feed 3 = .ok (.ldc2_w 141, 3) := by decide +kernel
theorem dX6_feed_6 : decode cX6_feed 6 = .ok (.invokestatic 61, 3) := by decide +kernel
theorem dX6_feed_9 : decode cX6_feed 9 = .ok (.ifCond .ne 6, 3) := by decide +kernel
theorem dX6_feed_12 : decode cX6_feed 12 = .ok (.bipush (-2), 2) := by decide +kernel
theorem dX6_feed_14 : decode cX6_feed 14 = .ok (.ireturn, 1) := by decide +kernel
theorem dX6_feed_15 : decode cX6_feed 15 = .ok (.aload_n 0, 1) := by decide +kernel
theorem dX6_feed_16 : decode cX6_feed 16 = .ok (.getfield 143, 3) := by decide +kernel
theorem dX6_feed_19 : decode cX6_feed 19 = .ok (.sipush 160, 3) := by decide +kernel
theorem dX6_feed_22 : decode cX6_feed 22 = .ok (.if_icmp .ne 6, 3) := by decide +kernel
theorem dX6_feed_25 : decode cX6_feed 25 = .ok (.bipush (-4), 2) := by decide +kernel
theorem dX6_feed_27 : decode cX6_feed 27 = .ok (.ireturn, 1) := by decide +kernel
theorem dX6_feed_28 : decode cX6_feed 28 = .ok (.aload_n 0, 1) := by decide +kernel
theorem dX6_feed_29 : decode cX6_feed 29 = .ok (.getfield 20, 3) := by decide +kernel
theorem dX6_feed_32 : decode cX6_feed 32 = .ok (.aload_n 0, 1) := by decide +kernel
theorem dX6_feed_33 : decode cX6_feed 33 = .ok (.getfield 143, 3) := by decide +kernel
theorem dX6_feed_36 : decode cX6_feed 36 = .ok (.iload_n 1, 1) := by decide +kernel
theorem dX6_feed_37 : decode cX6_feed 37 = .ok (.iastore, 1) := by decide +kernel
theorem dX6_feed_38 : decode cX6_feed 38 = .ok (.aload_n 0, 1) := by decide +kernel
theorem dX6_feed_39 : decode cX6_feed 39 = .ok (.dup, 1) := by decide +kernel
theorem dX6_feed_40 : decode cX6_feed 40 = .ok (.getfield 143, 3) := by decide +kernel
theorem dX6_feed_43 : decode cX6_feed 43 = .ok (.iconst 1, 1) := by decide +kernel
theorem dX6_feed_44 : decode cX6_feed 44 = .ok (.iadd, 1) := by decide +kernel
theorem dX6_feed_45 : decode cX6_feed 45 = .ok (.putfield 143, 3) := by decide +kernel
theorem dX6_feed_48 : decode cX6_feed 48 = .ok (.aload_n 0, 1) := by decide +kernel
theorem dX6_feed_49 : decode cX6_feed 49 = .ok (.getfield 143, 3) := by decide +kernel
theorem dX6_feed_52 : decode cX6_feed 52 = .ok (.ireturn, 1) := by decide +kernel
theorem dX6_byteAt_0 : decode cX6_byteAt 0 = .ok (.iload_n 1, 1) := by decide +kernel
theorem dX6_byteAt_1 : decode cX6_byteAt 1 = .ok (.aload_n 0, 1) := by decide +kernel
theorem dX6_byteAt_2 : decode cX6_byteAt 2 = .ok (.getfield 146, 3) := by decide +kernel
theorem dX6_byteAt_5 : decode cX6_byteAt 5 = .ok (.if_icmp .ge 17, 3) := by decide +kernel
theorem dX6_byteAt_8 : decode cX6_byteAt 8 = .ok (.aload_n 0, 1) := by decide +kernel
theorem dX6_byteAt_9 : decode cX6_byteAt 9 = .ok (.getfield 13, 3) := by decide +kernel
theorem dX6_byteAt_12 : decode cX6_byteAt 12 = .ok (.aload_n 0, 1) := by decide +kernel
theorem dX6_byteAt_13 : decode cX6_byteAt 13 = .ok (.getfield 149, 3) := by decide +kernel
theorem dX6_byteAt_16 : decode cX6_byteAt 16 = .ok (.iload_n 1, 1) := by decide +kernel
theorem dX6_byteAt_17 : decode cX6_byteAt 17 = .ok (.iadd, 1) := by decide +kernel
theorem dX6_byteAt_18 : decode cX6_byteAt 18 = .ok (.iaload, 1) := by decide +kernel
theorem dX6_byteAt_19 : decode cX6_byteAt 19 = .ok (.goto 4, 3) := by decide +kernel
theorem dX6_byteAt_22 : decode cX6_byteAt 22 = .ok (.iconst (-1), 1) := by decide +kernel
theorem dX6_byteAt_23 : decode cX6_byteAt 23 = .ok (.ireturn, 1) := by decide +kernel
set_option maxRecDepth 20000 in
theorem dX6_next_0 : decode cX6_next 0 = .ok (.aload_n 0, 1) := by decide +kernel
theorem dX6_next_1 : decode cX6_next 1 = .ok (.aload_n 0, 1) := by decide +kernel
theorem dX6_next_2 : decode cX6_next 2 = .ok (.getfield 152, 3) := by decide +kernel
theorem dX6_next_5 : decode cX6_next 5 = .ok (.invokevirtual 155, 3) := by decide +kernel
theorem dX6_next_8 : decode cX6_next 8 = .ok (.bipush 32, 2) := by decide +kernel
theorem dX6_next_10 : decode cX6_next 10 = .ok (.if_icmp .eq 16, 3) := by decide +kernel
theorem dX6_next_13 : decode cX6_next 13 = .ok (.aload_n 0, 1) := by decide +kernel
theorem dX6_next_14 : decode cX6_next 14 = .ok (.aload_n 0, 1) := by decide +kernel
theorem dX6_next_15 : decode cX6_next 15 = .ok (.getfield 152, 3) := by decide +kernel
theorem dX6_next_18 : decode cX6_next 18 = .ok (.invokevirtual 155, 3) := by decide +kernel
theorem dX6_next_21 : decode cX6_next 21 = .ok (.bipush 10, 2) := by decide +kernel
theorem dX6_next_23 : decode cX6_next 23 = .ok (.if_icmp .ne 16, 3) := by decide +kernel
theorem dX6_next_26 : decode cX6_next 26 = .ok (.aload_n 0, 1) := by decide +kernel
theorem dX6_next_27 : decode cX6_next 27 = .ok (.dup, 1) := by decide +kernel
theorem dX6_next_28 : decode cX6_next 28 = .ok (.getfield 152, 3) := by decide +kernel
theorem dX6_next_31 : decode cX6_next 31 = .ok (.iconst 1, 1) := by decide +kernel
theorem dX6_next_32 : decode cX6_next 32 = .ok (.iadd, 1) := by decide +kernel
theorem dX6_next_33 : decode cX6_next 33 = .ok (.putfield 152, 3) := by decide +kernel
theorem dX6_next_36 : decode cX6_next 36 = .ok (.goto (-36), 3) := by decide +kernel
theorem dX6_next_39 : decode cX6_next 39 = .ok (.aload_n 0, 1) := by decide +kernel
theorem dX6_next_40 : decode cX6_next 40 = .ok (.aload_n 0, 1) := by decide +kernel
theorem dX6_next_41 : decode cX6_next 41 = .ok (.getfield 152, 3) := by decide +kernel
theorem dX6_next_44 : decode cX6_next 44 = .ok (.putfield 158, 3) := by decide +kernel
theorem dX6_next_47 : decode cX6_next 47 = .ok (.aload_n 0, 1) := by decide +kernel
theorem dX6_next_48 : decode cX6_next 48 = .ok (.aload_n 0, 1) := by decide +kernel
theorem dX6_next_49 : decode cX6_next 49 = .ok (.getfield 152, 3) := by decide +kernel
theorem dX6_next_52 : decode cX6_next 52 = .ok (.invokevirtual 155, 3) := by decide +kernel
theorem dX6_next_55 : decode cX6_next 55 = .ok (.istore_n 1, 1) := by decide +kernel
theorem dX6_next_56 : decode cX6_next 56 = .ok (.aload_n 0, 1) := by decide +kernel
theorem dX6_next_57 : decode cX6_next 57 = .ok (.iconst 4, 1) := by decide +kernel
theorem dX6_next_58 : decode cX6_next 58 = .ok (.putfield 161, 3) := by decide +kernel
theorem dX6_next_61 : decode cX6_next 61 = .ok (.iload_n 1, 1) := by decide +kernel
theorem dX6_next_62 : decode cX6_next 62 = .ok (.ifCond .ge 19, 3) := by decide +kernel
theorem dX6_next_65 : decode cX6_next 65 = .ok (.aload_n 0, 1) := by decide +kernel
theorem dX6_next_66 : decode cX6_next 66 = .ok (.iconst 0, 1) := by decide +kernel
theorem dX6_next_67 : decode cX6_next 67 = .ok (.putfield 161, 3) := by decide +kernel
theorem dX6_next_70 : decode cX6_next 70 = .ok (.aload_n 0, 1) := by decide +kernel
theorem dX6_next_71 : decode cX6_next 71 = .ok (.aload_n 0, 1) := by decide +kernel
theorem dX6_next_72 : decode cX6_next 72 = .ok (.getfield 146, 3) := by decide +kernel
theorem dX6_next_75 : decode cX6_next 75 = .ok (.putfield 158, 3) := by decide +kernel
theorem dX6_next_78 : decode cX6_next 78 = .ok (.goto 243, 3) := by decide +kernel
theorem dX6_next_81 : decode cX6_next 81 = .ok (.iload_n 1, 1) := by decide +kernel
theorem dX6_next_82 : decode cX6_next 82 = .ok (.i2l, 1) := by decide +kernel
theorem dX6_next_83 : decode cX6_next 83 = .ok (.ldc2_w 164, 3) := by decide +kernel
theorem dX6_next_86 : decode cX6_next 86 = .ok (.ldc2_w 166, 3) := by decide +kernel
theorem dX6_next_89 : decode cX6_next 89 = .ok (.invokestatic 61, 3) := by decide +kernel
theorem dX6_next_92 : decode cX6_next 92 = .ok (.ifCond .eq 42, 3) := by decide +kernel
theorem dX6_next_95 : decode cX6_next 95 = .ok (.aload_n 0, 1) := by decide +kernel
theorem dX6_next_96 : decode cX6_next 96 = .ok (.iconst 1, 1) := by decide +kernel
theorem dX6_next_97 : decode cX6_next 97 = .ok (.putfield 161, 3) := by decide +kernel
theorem dX6_next_100 : decode cX6_next 100 = .ok (.aload_n 0, 1) := by decide +kernel
theorem dX6_next_101 : decode cX6_next 101 = .ok (.aload_n 0, 1) := by decide +kernel
theorem dX6_next_102 : decode cX6_next 102 = .ok (.getfield 152, 3) := by decide +kernel
theorem dX6_next_105 : decode cX6_next 105 = .ok (.invokevirtual 155, 3) := by decide +kernel
theorem dX6_next_108 : decode cX6_next 108 = .ok (.i2l, 1) := by decide +kernel
theorem dX6_next_109 : decode cX6_next 109 = .ok (.ldc2_w 164, 3) := by decide +kernel
theorem dX6_next_112 : decode cX6_next 112 = .ok (.ldc2_w 166, 3) := by decide +kernel
theorem dX6_next_115 : decode cX6_next 115 = .ok (.invokestatic 61, 3) := by decide +kernel
theorem dX6_next_118 : decode cX6_next 118 = .ok (.ifCond .eq 203, 3) := by decide +kernel
theorem dX6_next_121 : decode cX6_next 121 = .ok (.aload_n 0, 1) := by decide +kernel
theorem dX6_next_122 : decode cX6_next 122 = .ok (.dup, 1) := by decide +kernel
theorem dX6_next_123 : decode cX6_next 123 = .ok (.getfield 152, 3) := by decide +kernel
theorem dX6_next_126 : decode cX6_next 126 = .ok (.iconst 1, 1) := by decide +kernel
theorem dX6_next_127 : decode cX6_next 127 = .ok (.iadd, 1) := by decide +kernel
theorem dX6_next_128 : decode cX6_next 128 = .ok (.putfield 152, 3) := by decide +kernel
theorem dX6_next_131 : decode cX6_next 131 = .ok (.goto (-31), 3) := by decide +kernel
theorem dX6_next_134 : decode cX6_next 134 = .ok (.iload_n 1, 1) := by decide +kernel
theorem dX6_next_135 : decode cX6_next 135 = .ok (.i2l, 1) := by decide +kernel
theorem dX6_next_136 : decode cX6_next 136 = .ok (.ldc2_w 168, 3) := by decide +kernel
theorem dX6_next_139 : decode cX6_next 139 = .ok (.ldc2_w 170, 3) := by decide +kernel
theorem dX6_next_142 : decode cX6_next 142 = .ok (.invokestatic 61, 3) := by decide +kernel
theorem dX6_next_145 : decode cX6_next 145 = .ok (.ifCond .eq 107, 3) := by decide +kernel
theorem dX6_next_148 : decode cX6_next 148 = .ok (.aload_n 0, 1) := by decide +kernel
theorem dX6_next_149 : decode cX6_next 149 = .ok (.iconst 2, 1) := by decide +kernel
theorem dX6_next_150 : decode cX6_next 150 = .ok (.putfield 161, 3) := by decide +kernel
theorem dX6_next_153 : decode cX6_next 153 = .ok (.aload_n 0, 1) := by decide +kernel
theorem dX6_next_154 : decode cX6_next 154 = .ok (.lconst 0, 1) := by decide +kernel
theorem dX6_next_155 : decode cX6_next 155 = .ok (.putfield 172, 3) := by decide +kernel
theorem dX6_next_158 : decode cX6_next 158 = .ok (.iconst 0, 1) := by decide +kernel
theorem dX6_next_159 : decode cX6_next 159 = .ok (.istore_n 2, 1) := by decide +kernel
theorem dX6_next_160 : decode cX6_next 160 = .ok (.aload_n 0, 1) := by decide +kernel
theorem dX6_next_161 : decode cX6_next 161 = .ok (.aload_n 0, 1) := by decide +kernel
theorem dX6_next_162 : decode cX6_next 162 = .ok (.getfield 152, 3) := by decide +kernel
theorem dX6_next_165 : decode cX6_next 165 = .ok (.invokevirtual 155, 3) := by decide +kernel
theorem dX6_next_168 : decode cX6_next 168 = .ok (.i2l, 1) := by decide +kernel
theorem dX6_next_169 : decode cX6_next 169 = .ok (.ldc2_w 168, 3) := by decide +kernel
theorem dX6_next_172 : decode cX6_next 172 = .ok (.ldc2_w 170, 3) := by decide +kernel
theorem dX6_next_175 : decode cX6_next 175 = .ok (.invokestatic 61, 3) := by decide +kernel
theorem dX6_next_178 : decode cX6_next 178 = .ok (.ifCond .eq 57, 3) := by decide +kernel
theorem dX6_next_181 : decode cX6_next 181 = .ok (.aload_n 0, 1) := by decide +kernel
theorem dX6_next_182 : decode cX6_next 182 = .ok (.iload_n 2, 1) := by decide +kernel
theorem dX6_next_183 : decode cX6_next 183 = .ok (.iconst 4, 1) := by decide +kernel
theorem dX6_next_184 : decode cX6_next 184 = .ok (.if_icmp .ge 28, 3) := by decide +kernel
theorem dX6_next_187 : decode cX6_next 187 = .ok (.ldc2_w 175, 3) := by decide +kernel
theorem dX6_next_190 : decode cX6_next 190 = .ok (.aload_n 0, 1) := by decide +kernel
theorem dX6_next_191 : decode cX6_next 191 = .ok (.getfield 172, 3) := by decide +kernel
theorem dX6_next_194 : decode cX6_next 194 = .ok (.lmul, 1) := by decide +kernel
theorem dX6_next_195 : decode cX6_next 195 = .ok (.aload_n 0, 1) := by decide +kernel
theorem dX6_next_196 : decode cX6_next 196 = .ok (.aload_n 0, 1) := by decide +kernel
theorem dX6_next_197 : decode cX6_next 197 = .ok (.getfield 152, 3) := by decide +kernel
theorem dX6_next_200 : decode cX6_next 200 = .ok (.invokevirtual 155, 3) := by decide +kernel
theorem dX6_next_203 : decode cX6_next 203 = .ok (.i2l, 1) := by decide +kernel
theorem dX6_next_204 : decode cX6_next 204 = .ok (.ladd, 1) := by decide +kernel
theorem dX6_next_205 : decode cX6_next 205 = .ok (.ldc2_w 168, 3) := by decide +kernel
theorem dX6_next_208 : decode cX6_next 208 = .ok (.lsub, 1) := by decide +kernel
theorem dX6_next_209 : decode cX6_next 209 = .ok (.goto 7, 3) := by decide +kernel
theorem dX6_next_212 : decode cX6_next 212 = .ok (.aload_n 0, 1) := by decide +kernel
theorem dX6_next_213 : decode cX6_next 213 = .ok (.getfield 172, 3) := by decide +kernel
theorem dX6_next_216 : decode cX6_next 216 = .ok (.putfield 172, 3) := by decide +kernel
theorem dX6_next_219 : decode cX6_next 219 = .ok (.iinc 2 1, 3) := by decide +kernel
theorem dX6_next_222 : decode cX6_next 222 = .ok (.aload_n 0, 1) := by decide +kernel
theorem dX6_next_223 : decode cX6_next 223 = .ok (.dup, 1) := by decide +kernel
theorem dX6_next_224 : decode cX6_next 224 = .ok (.getfield 152, 3) := by decide +kernel
theorem dX6_next_227 : decode cX6_next 227 = .ok (.iconst 1, 1) := by decide +kernel
theorem dX6_next_228 : decode cX6_next 228 = .ok (.iadd, 1) := by decide +kernel
theorem dX6_next_229 : decode cX6_next 229 = .ok (.putfield 152, 3) := by decide +kernel
theorem dX6_next_232 : decode cX6_next 232 = .ok (.goto (-72), 3) := by decide +kernel
theorem dX6_next_235 : decode cX6_next 235 = .ok (.aload_n 0, 1) := by decide +kernel
theorem dX6_next_236 : decode cX6_next 236 = .ok (.iload_n 2, 1) := by decide +kernel
theorem dX6_next_237 : decode cX6_next 237 = .ok (.iconst 4, 1) := by decide +kernel
theorem dX6_next_238 : decode cX6_next 238 = .ok (.if_icmp .le 7, 3) := by decide +kernel
theorem dX6_next_241 : decode cX6_next 241 = .ok (.iconst 4, 1) := by decide +kernel
theorem dX6_next_242 : decode cX6_next 242 = .ok (.goto 4, 3) := by decide +kernel
theorem dX6_next_245 : decode cX6_next 245 = .ok (.iconst 2, 1) := by decide +kernel
theorem dX6_next_246 : decode cX6_next 246 = .ok (.putfield 161, 3) := by decide +kernel
theorem dX6_next_249 : decode cX6_next 249 = .ok (.goto 72, 3) := by decide +kernel
theorem dX6_next_252 : decode cX6_next 252 = .ok (.iload_n 1, 1) := by decide +kernel
theorem dX6_next_253 : decode cX6_next 253 = .ok (.bipush 40, 2) := by decide +kernel
theorem dX6_next_255 : decode cX6_next 255 = .ok (.if_icmp .eq 45, 3) := by decide +kernel
theorem dX6_next_258 : decode cX6_next 258 = .ok (.iload_n 1, 1) := by decide +kernel
theorem dX6_next_259 : decode cX6_next 259 = .ok (.bipush 41, 2) := by decide +kernel
theorem dX6_next_261 : decode cX6_next 261 = .ok (.if_icmp .eq 39, 3) := by decide +kernel
theorem dX6_next_264 : decode cX6_next 264 = .ok (.iload_n 1, 1) := by decide +kernel
theorem dX6_next_265 : decode cX6_next 265 = .ok (.bipush 59, 2) := by decide +kernel
theorem dX6_next_267 : decode cX6_next 267 = .ok (.if_icmp .eq 33, 3) := by decide +kernel
theorem dX6_next_270 : decode cX6_next 270 = .ok (.iload_n 1, 1) := by decide +kernel
theorem dX6_next_271 : decode cX6_next 271 = .ok (.bipush 43, 2) := by decide +kernel
theorem dX6_next_273 : decode cX6_next 273 = .ok (.if_icmp .eq 27, 3) := by decide +kernel
theorem dX6_next_276 : decode cX6_next 276 = .ok (.iload_n 1, 1) := by decide +kernel
theorem dX6_next_277 : decode cX6_next 277 = .ok (.bipush 45, 2) := by decide +kernel
theorem dX6_next_279 : decode cX6_next 279 = .ok (.if_icmp .eq 21, 3) := by decide +kernel
theorem dX6_next_282 : decode cX6_next 282 = .ok (.iload_n 1, 1) := by decide +kernel
theorem dX6_next_283 : decode cX6_next 283 = .ok (.bipush 42, 2) := by decide +kernel
theorem dX6_next_285 : decode cX6_next 285 = .ok (.if_icmp .eq 15, 3) := by decide +kernel
theorem dX6_next_288 : decode cX6_next 288 = .ok (.iload_n 1, 1) := by decide +kernel
theorem dX6_next_289 : decode cX6_next 289 = .ok (.bipush 60, 2) := by decide +kernel
theorem dX6_next_291 : decode cX6_next 291 = .ok (.if_icmp .eq 9, 3) := by decide +kernel
theorem dX6_next_294 : decode cX6_next 294 = .ok (.iload_n 1, 1) := by decide +kernel
theorem dX6_next_295 : decode cX6_next 295 = .ok (.bipush 61, 2) := by decide +kernel
theorem dX6_next_297 : decode cX6_next 297 = .ok (.if_icmp .ne 24, 3) := by decide +kernel
theorem dX6_next_300 : decode cX6_next 300 = .ok (.aload_n 0, 1) := by decide +kernel
theorem dX6_next_301 : decode cX6_next 301 = .ok (.iconst 3, 1) := by decide +kernel
theorem dX6_next_302 : decode cX6_next 302 = .ok (.putfield 161, 3) := by decide +kernel
theorem dX6_next_305 : decode cX6_next 305 = .ok (.aload_n 0, 1) := by decide +kernel
theorem dX6_next_306 : decode cX6_next 306 = .ok (.iload_n 1, 1) := by decide +kernel
theorem dX6_next_307 : decode cX6_next 307 = .ok (.i2l, 1) := by decide +kernel
theorem dX6_next_308 : decode cX6_next 308 = .ok (.putfield 172, 3) := by decide +kernel
theorem dX6_next_311 : decode cX6_next 311 = .ok (.aload_n 0, 1) := by decide +kernel
theorem dX6_next_312 : decode cX6_next 312 = .ok (.dup, 1) := by decide +kernel
theorem dX6_next_313 : decode cX6_next 313 = .ok (.getfield 152, 3) := by decide +kernel
theorem dX6_next_316 : decode cX6_next 316 = .ok (.iconst 1, 1) := by decide +kernel
theorem dX6_next_317 : decode cX6_next 317 = .ok (.iadd, 1) := by decide +kernel
theorem dX6_next_318 : decode cX6_next 318 = .ok (.putfield 152, 3) := by decide +kernel
theorem dX6_next_321 : decode cX6_next 321 = .ok (.return_, 1) := by decide +kernel
theorem dX6_fail_0 : decode cX6_fail 0 = .ok (.aload_n 0, 1) := by decide +kernel
theorem dX6_fail_1 : decode cX6_fail 1 = .ok (.getfield 177, 3) := by decide +kernel
theorem dX6_fail_4 : decode cX6_fail 4 = .ok (.ifCond .ne 16, 3) := by decide +kernel
theorem dX6_fail_7 : decode cX6_fail 7 = .ok (.aload_n 0, 1) := by decide +kernel
theorem dX6_fail_8 : decode cX6_fail 8 = .ok (.iconst 1, 1) := by decide +kernel
theorem dX6_fail_9 : decode cX6_fail 9 = .ok (.putfield 177, 3) := by decide +kernel
theorem dX6_fail_12 : decode cX6_fail 12 = .ok (.aload_n 0, 1) := by decide +kernel
theorem dX6_fail_13 : decode cX6_fail 13 = .ok (.aload_n 0, 1) := by decide +kernel
theorem dX6_fail_14 : decode cX6_fail 14 = .ok (.getfield 158, 3) := by decide +kernel
theorem dX6_fail_17 : decode cX6_fail 17 = .ok (.putfield 181, 3) := by decide +kernel
theorem dX6_fail_20 : decode cX6_fail 20 = .ok (.return_, 1) := by decide +kernel
set_option maxRecDepth 20000 in
theorem dX6_isLetter_0 : decode cX6_isLetter 0 = .ok (.aload_n 0, 1) := by decide +kernel
theorem dX6_isLetter_1 : decode cX6_isLetter 1 = .ok (.getfield 158, 3) := by decide +kernel
theorem dX6_isLetter_4 : decode cX6_isLetter 4 = .ok (.iload_n 1, 1) := by decide +kernel
theorem dX6_isLetter_5 : decode cX6_isLetter 5 = .ok (.iadd, 1) := by decide +kernel
theorem dX6_isLetter_6 : decode cX6_isLetter 6 = .ok (.aload_n 0, 1) := by decide +kernel
theorem dX6_isLetter_7 : decode cX6_isLetter 7 = .ok (.getfield 152, 3) := by decide +kernel
theorem dX6_isLetter_10 : decode cX6_isLetter 10 = .ok (.if_icmp .ge 25, 3) := by decide +kernel
theorem dX6_isLetter_13 : decode cX6_isLetter 13 = .ok (.aload_n 0, 1) := by decide +kernel
theorem dX6_isLetter_14 : decode cX6_isLetter 14 = .ok (.aload_n 0, 1) := by decide +kernel
theorem dX6_isLetter_15 : decode cX6_isLetter 15 = .ok (.getfield 158, 3) := by decide +kernel
theorem dX6_isLetter_18 : decode cX6_isLetter 18 = .ok (.iload_n 1, 1) := by decide +kernel
theorem dX6_isLetter_19 : decode cX6_isLetter 19 = .ok (.iadd, 1) := by decide +kernel
theorem dX6_isLetter_20 : decode cX6_isLetter 20 = .ok (.invokevirtual 155, 3) := by decide +kernel
theorem dX6_isLetter_23 : decode cX6_isLetter 23 = .ok (.iload_n 2, 1) := by decide +kernel
theorem dX6_isLetter_24 : decode cX6_isLetter 24 = .ok (.if_icmp .ne 7, 3) := by decide +kernel
theorem dX6_isLetter_27 : decode cX6_isLetter 27 = .ok (.iconst 1, 1) := by decide +kernel
theorem dX6_isLetter_28 : decode cX6_isLetter 28 = .ok (.goto 16, 3) := by decide +kernel
theorem dX6_isLetter_31 : decode cX6_isLetter 31 = .ok (.iconst 0, 1) := by decide +kernel
theorem dX6_isLetter_32 : decode cX6_isLetter 32 = .ok (.goto 12, 3) := by decide +kernel
theorem dX6_isLetter_35 : decode cX6_isLetter 35 = .ok (.iload_n 2, 1) := by decide +kernel
theorem dX6_isLetter_36 : decode cX6_isLetter 36 = .ok (.ifCond .ne 7, 3) := by decide +kernel
theorem dX6_isLetter_39 : decode cX6_isLetter 39 = .ok (.iconst 1, 1) := by decide +kernel
theorem dX6_isLetter_40 : decode cX6_isLetter 40 = .ok (.goto 4, 3) := by decide +kernel
theorem dX6_isLetter_43 : decode cX6_isLetter 43 = .ok (.iconst 0, 1) := by decide +kernel
theorem dX6_isLetter_44 : decode cX6_isLetter 44 = .ok (.ireturn, 1) := by decide +kernel
set_option maxRecDepth 20000 in
theorem dX6_isWord_0 : decode cX6_isWord 0 = .ok (.aload_n 0, 1) := by decide +kernel
theorem dX6_isWord_1 : decode cX6_isWord 1 = .ok (.getfield 177, 3) := by decide +kernel
theorem dX6_isWord_4 : decode cX6_isWord 4 = .ok (.ifCond .ne 108, 3) := by decide +kernel
theorem dX6_isWord_7 : decode cX6_isWord 7 = .ok (.aload_n 0, 1) := by decide +kernel
theorem dX6_isWord_8 : decode cX6_isWord 8 = .ok (.getfield 161, 3) := by decide +kernel
theorem dX6_isWord_11 : decode cX6_isWord 11 = .ok (.iconst 1, 1) := by decide +kernel
theorem dX6_isWord_12 : decode cX6_isWord 12 = .ok (.if_icmp .ne 100, 3) := by decide +kernel
theorem dX6_isWord_15 : decode cX6_isWord 15 = .ok (.aload_n 0, 1) := by decide +kernel
theorem dX6_isWord_16 : decode cX6_isWord 16 = .ok (.getfield 152, 3) := by decide +kernel
theorem dX6_isWord_19 : decode cX6_isWord 19 = .ok (.aload_n 0, 1) := by decide +kernel
theorem dX6_isWord_20 : decode cX6_isWord 20 = .ok (.getfield 158, 3) := by decide +kernel
theorem dX6_isWord_23 : decode cX6_isWord 23 = .ok (.bipush 8, 2) := by decide +kernel
theorem dX6_isWord_25 : decode cX6_isWord 25 = .ok (.iadd, 1) := by decide +kernel
theorem dX6_isWord_26 : decode cX6_isWord 26 = .ok (.if_icmp .gt 86, 3) := by decide +kernel
theorem dX6_isWord_29 : decode cX6_isWord 29 = .ok (.aload_n 0, 1) := by decide +kernel
theorem dX6_isWord_30 : decode cX6_isWord 30 = .ok (.iconst 0, 1) := by decide +kernel
theorem dX6_isWord_31 : decode cX6_isWord 31 = .ok (.iload_n 1, 1) := by decide +kernel
theorem dX6_isWord_32 : decode cX6_isWord 32 = .ok (.invokevirtual 184, 3) := by decide +kernel
theorem dX6_isWord_35 : decode cX6_isWord 35 = .ok (.ifCond .eq 77, 3) := by decide +kernel
theorem dX6_isWord_38 : decode cX6_isWord 38 = .ok (.aload_n 0, 1) := by decide +kernel
theorem dX6_isWord_39 : decode cX6_isWord 39 = .ok (.iconst 1, 1) := by decide +kernel
theorem dX6_isWord_40 : decode cX6_isWord 40 = .ok (.iload_n 2, 1) := by decide +kernel
theorem dX6_isWord_41 : decode cX6_isWord 41 = .ok (.invokevirtual 184, 3) := by decide +kernel
theorem dX6_isWord_44 : decode cX6_isWord 44 = .ok (.ifCond .eq 68, 3) := by decide +kernel
theorem dX6_isWord_47 : decode cX6_isWord 47 = .ok (.aload_n 0, 1) := by decide +kernel
theorem dX6_isWord_48 : decode cX6_isWord 48 = .ok (.iconst 2, 1) := by decide +kernel
theorem dX6_isWord_49 : decode cX6_isWord 49 = .ok (.iload_n 3, 1) := by decide +kernel
theorem dX6_isWord_50 : decode cX6_isWord 50 = .ok (.invokevirtual 184, 3) := by decide +kernel
theorem dX6_isWord_53 : decode cX6_isWord 53 = .ok (.ifCond .eq 59, 3) := by decide +kernel
theorem dX6_isWord_56 : decode cX6_isWord 56 = .ok (.aload_n 0, 1) := by decide +kernel
theorem dX6_isWord_57 : decode cX6_isWord 57 = .ok (.iconst 3, 1) := by decide +kernel
theorem dX6_isWord_58 : decode cX6_isWord 58 = .ok (.iload 4, 2) := by decide +kernel
theorem dX6_isWord_60 : decode cX6_isWord 60 = .ok (.invokevirtual 184, 3) := by decide +kernel
theorem dX6_isWord_63 : decode cX6_isWord 63 = .ok (.ifCond .eq 49, 3) := by decide +kernel
theorem dX6_isWord_66 : decode cX6_isWord 66 = .ok (.aload_n 0, 1) := by decide +kernel
theorem dX6_isWord_67 : decode cX6_isWord 67 = .ok (.iconst 4, 1) := by decide +kernel
theorem dX6_isWord_68 : decode cX6_isWord 68 = .ok (.iload 5, 2) := by decide +kernel
theorem dX6_isWord_70 : decode cX6_isWord 70 = .ok (.invokevirtual 184, 3) := by decide +kernel
theorem dX6_isWord_73 : decode cX6_isWord 73 = .ok (.ifCond .eq 39, 3) := by decide +kernel
theorem dX6_isWord_76 : decode cX6_isWord 76 = .ok (.aload_n 0, 1) := by decide +kernel
theorem dX6_isWord_77 : decode cX6_isWord 77 = .ok (.iconst 5, 1) := by decide +kernel
theorem dX6_isWord_78 : decode cX6_isWord 78 = .ok (.iload 6, 2) := by decide +kernel
theorem dX6_isWord_80 : decode cX6_isWord 80 = .ok (.invokevirtual 184, 3) := by decide +kernel
theorem dX6_isWord_83 : decode cX6_isWord 83 = .ok (.ifCond .eq 29, 3) := by decide +kernel
theorem dX6_isWord_86 : decode cX6_isWord 86 = .ok (.aload_n 0, 1) := by decide +kernel
theorem dX6_isWord_87 : decode cX6_isWord 87 = .ok (.bipush 6, 2) := by decide +kernel
theorem dX6_isWord_89 : decode cX6_isWord 89 = .ok (.iload 7, 2) := by decide +kernel
theorem dX6_isWord_91 : decode cX6_isWord 91 = .ok (.invokevirtual 184, 3) := by decide +kernel
theorem dX6_isWord_94 : decode cX6_isWord 94 = .ok (.ifCond .eq 18, 3) := by decide +kernel
theorem dX6_isWord_97 : decode cX6_isWord 97 = .ok (.aload_n 0, 1) := by decide +kernel
theorem dX6_isWord_98 : decode cX6_isWord 98 = .ok (.bipush 7, 2) := by decide +kernel
theorem dX6_isWord_100 : decode cX6_isWord 100 = .ok (.iload 8, 2) := by decide +kernel
theorem dX6_isWord_102 : decode cX6_isWord 102 = .ok (.invokevirtual 184, 3) := by decide +kernel
theorem dX6_isWord_105 : decode cX6_isWord 105 = .ok (.ifCond .eq 7, 3) := by decide +kernel
theorem dX6_isWord_108 : decode cX6_isWord 108 = .ok (.iconst 1, 1) := by decide +kernel
theorem dX6_isWord_109 : decode cX6_isWord 109 = .ok (.goto 4, 3) := by decide +kernel
theorem dX6_isWord_112 : decode cX6_isWord 112 = .ok (.iconst 0, 1) := by decide +kernel
theorem dX6_isWord_113 : decode cX6_isWord 113 = .ok (.ireturn, 1) := by decide +kernel
theorem dX6_isSign_0 : decode cX6_isSign 0 = .ok (.aload_n 0, 1) := by decide +kernel
theorem dX6_isSign_1 : decode cX6_isSign 1 = .ok (.getfield 177, 3) := by decide +kernel
theorem dX6_isSign_4 : decode cX6_isSign 4 = .ok (.ifCond .ne 25, 3) := by decide +kernel
theorem dX6_isSign_7 : decode cX6_isSign 7 = .ok (.aload_n 0, 1) := by decide +kernel
theorem dX6_isSign_8 : decode cX6_isSign 8 = .ok (.getfield 161, 3) := by decide +kernel
theorem dX6_isSign_11 : decode cX6_isSign 11 = .ok (.iconst 3, 1) := by decide +kernel
theorem dX6_isSign_12 : decode cX6_isSign 12 = .ok (.if_icmp .ne 17, 3) := by decide +kernel
theorem dX6_isSign_15 : decode cX6_isSign 15 = .ok (.aload_n 0, 1) := by decide +kernel
theorem dX6_isSign_16 : decode cX6_isSign 16 = .ok (.getfield 172, 3) := by decide +kernel
theorem dX6_isSign_19 : decode cX6_isSign 19 = .ok (.iload_n 1, 1) := by decide +kernel
theorem dX6_isSign_20 : decode cX6_isSign 20 = .ok (.i2l, 1) := by decide +kernel
theorem dX6_isSign_21 : decode cX6_isSign 21 = .ok (.lcmp, 1) := by decide +kernel
theorem dX6_isSign_22 : decode cX6_isSign 22 = .ok (.ifCond .ne 7, 3) := by decide +kernel
theorem dX6_isSign_25 : decode cX6_isSign 25 = .ok (.iconst 1, 1) := by decide +kernel
theorem dX6_isSign_26 : decode cX6_isSign 26 = .ok (.goto 4, 3) := by decide +kernel
theorem dX6_isSign_29 : decode cX6_isSign 29 = .ok (.iconst 0, 1) := by decide +kernel
theorem dX6_isSign_30 : decode cX6_isSign 30 = .ok (.ireturn, 1) := by decide +kernel
set_option maxRecDepth 20000 in
theorem dX6_opens_0 : decode cX6_opens 0 = .ok (.aload_n 0, 1) := by decide +kernel
theorem dX6_opens_1 : decode cX6_opens 1 = .ok (.getfield 187, 3) := by decide +kernel
theorem dX6_opens_4 : decode cX6_opens 4 = .ok (.iconst 5, 1) := by decide +kernel
theorem dX6_opens_5 : decode cX6_opens 5 = .ok (.if_icmp .ne 9, 3) := by decide +kernel
theorem dX6_opens_8 : decode cX6_opens 8 = .ok (.aload_n 0, 1) := by decide +kernel
theorem dX6_opens_9 : decode cX6_opens 9 = .ok (.invokevirtual 190, 3) := by decide +kernel
theorem dX6_opens_12 : decode cX6_opens 12 = .ok (.iconst 0, 1) := by decide +kernel
theorem dX6_opens_13 : decode cX6_opens 13 = .ok (.ireturn, 1) := by decide +kernel
theorem dX6_opens_14 : decode cX6_opens 14 = .ok (.aload_n 0, 1) := by decide +kernel
theorem dX6_opens_15 : decode cX6_opens 15 = .ok (.dup, 1) := by decide +kernel
theorem dX6_opens_16 : decode cX6_opens 16 = .ok (.getfield 187, 3) := by decide +kernel
theorem dX6_opens_19 : decode cX6_opens 19 = .ok (.iconst 1, 1) := by decide +kernel
theorem dX6_opens_20 : decode cX6_opens 20 = .ok (.iadd, 1) := by decide +kernel
theorem dX6_opens_21 : decode cX6_opens 21 = .ok (.putfield 187, 3) := by decide +kernel
theorem dX6_opens_24 : decode cX6_opens 24 = .ok (.aload_n 0, 1) := by decide +kernel
theorem dX6_opens_25 : decode cX6_opens 25 = .ok (.invokevirtual 193, 3) := by decide +kernel
theorem dX6_opens_28 : decode cX6_opens 28 = .ok (.iconst 1, 1) := by decide +kernel
theorem dX6_opens_29 : decode cX6_opens 29 = .ok (.ireturn, 1) := by decide +kernel
set_option maxRecDepth 20000 in
theorem dX6_name_0 : decode cX6_name 0 = .ok (.aload_n 0, 1) := by decide +kernel
theorem dX6_name_1 : decode cX6_name 1 = .ok (.bipush 119, 2) := by decide +kernel
theorem dX6_name_3 : decode cX6_name 3 = .ok (.bipush 101, 2) := by decide +kernel
theorem dX6_name_5 : decode cX6_name 5 = .ok (.bipush 97, 2) := by decide +kernel
theorem dX6_name_7 : decode cX6_name 7 = .ok (.bipush 114, 2) := by decide +kernel
theorem dX6_name_9 : decode cX6_name 9 = .ok (.bipush 121, 2) := by decide +kernel
theorem dX6_name_11 : decode cX6_name 11 = .ok (.iconst 0, 1) := by decide +kernel
theorem dX6_name_12 : decode cX6_name 12 = .ok (.iconst 0, 1) := by decide +kernel
theorem dX6_name_13 : decode cX6_name 13 = .ok (.iconst 0, 1) := by decide +kernel
theorem dX6_name_14 : decode cX6_name 14 = .ok (.invokevirtual 196, 3) := by decide +kernel
theorem dX6_name_17 : decode cX6_name 17 = .ok (.ifCond .eq 8, 3) := by decide +kernel
theorem dX6_name_20 : decode cX6_name 20 = .ok (.aload_n 0, 1) := by decide +kernel
theorem dX6_name_21 : decode cX6_name 21 = .ok (.getfield 200, 3) := by decide +kernel
theorem dX6_name_24 : decode cX6_name 24 = .ok (.ireturn, 1) := by decide +kernel
theorem dX6_name_25 : decode cX6_name 25 = .ok (.aload_n 0, 1) := by decide +kernel
theorem dX6_name_26 : decode cX6_name 26 = .ok (.bipush 99, 2) := by decide +kernel
theorem dX6_name_28 : decode cX6_name 28 = .ok (.bipush 111, 2) := by decide +kernel
theorem dX6_name_30 : decode cX6_name 30 = .ok (.bipush 108, 2) := by decide +kernel
theorem dX6_name_32 : decode cX6_name 32 = .ok (.bipush 117, 2) := by decide +kernel
theorem dX6_name_34 : decode cX6_name 34 = .ok (.bipush 109, 2) := by decide +kernel
theorem dX6_name_36 : decode cX6_name 36 = .ok (.bipush 110, 2) := by decide +kernel
theorem dX6_name_38 : decode cX6_name 38 = .ok (.iconst 0, 1) := by decide +kernel
theorem dX6_name_39 : decode cX6_name 39 = .ok (.iconst 0, 1) := by decide +kernel
theorem dX6_name_40 : decode cX6_name 40 = .ok (.invokevirtual 196, 3) := by decide +kernel
theorem dX6_name_43 : decode cX6_name 43 = .ok (.ifCond .eq 8, 3) := by decide +kernel
theorem dX6_name_46 : decode cX6_name 46 = .ok (.aload_n 0, 1) := by decide +kernel
theorem dX6_name_47 : decode cX6_name 47 = .ok (.getfield 203, 3) := by decide +kernel
theorem dX6_name_50 : decode cX6_name 50 = .ok (.ireturn, 1) := by decide +kernel
theorem dX6_name_51 : decode cX6_name 51 = .ok (.aload_n 0, 1) := by decide +kernel
theorem dX6_name_52 : decode cX6_name 52 = .ok (.bipush 114, 2) := by decide +kernel
theorem dX6_name_54 : decode cX6_name 54 = .ok (.bipush 111, 2) := by decide +kernel
theorem dX6_name_56 : decode cX6_name 56 = .ok (.bipush 119, 2) := by decide +kernel
theorem dX6_name_58 : decode cX6_name 58 = .ok (.iconst 0, 1) := by decide +kernel
theorem dX6_name_59 : decode cX6_name 59 = .ok (.iconst 0, 1) := by decide +kernel
theorem dX6_name_60 : decode cX6_name 60 = .ok (.iconst 0, 1) := by decide +kernel
theorem dX6_name_61 : decode cX6_name 61 = .ok (.iconst 0, 1) := by decide +kernel
theorem dX6_name_62 : decode cX6_name 62 = .ok (.iconst 0, 1) := by decide +kernel
theorem dX6_name_63 : decode cX6_name 63 = .ok (.invokevirtual 196, 3) := by decide +kernel
theorem dX6_name_66 : decode cX6_name 66 = .ok (.ifCond .eq 8, 3) := by decide +kernel
theorem dX6_name_69 : decode cX6_name 69 = .ok (.aload_n 0, 1) := by decide +kernel
theorem dX6_name_70 : decode cX6_name 70 = .ok (.getfield 206, 3) := by decide +kernel
theorem dX6_name_73 : decode cX6_name 73 = .ok (.ireturn, 1) := by decide +kernel
theorem dX6_name_74 : decode cX6_name 74 = .ok (.aload_n 0, 1) := by decide +kernel
theorem dX6_name_75 : decode cX6_name 75 = .ok (.bipush 110, 2) := by decide +kernel
theorem dX6_name_77 : decode cX6_name 77 = .ok (.bipush 117, 2) := by decide +kernel
theorem dX6_name_79 : decode cX6_name 79 = .ok (.bipush 109, 2) := by decide +kernel
theorem dX6_name_81 : decode cX6_name 81 = .ok (.bipush 98, 2) := by decide +kernel
theorem dX6_name_83 : decode cX6_name 83 = .ok (.bipush 101, 2) := by decide +kernel
theorem dX6_name_85 : decode cX6_name 85 = .ok (.bipush 114, 2) := by decide +kernel
theorem dX6_name_87 : decode cX6_name 87 = .ok (.iconst 0, 1) := by decide +kernel
theorem dX6_name_88 : decode cX6_name 88 = .ok (.iconst 0, 1) := by decide +kernel
theorem dX6_name_89 : decode cX6_name 89 = .ok (.invokevirtual 196, 3) := by decide +kernel
theorem dX6_name_92 : decode cX6_name 92 = .ok (.ifCond .eq 8, 3) := by decide +kernel
theorem dX6_name_95 : decode cX6_name 95 = .ok (.aload_n 0, 1) := by decide +kernel
theorem dX6_name_96 : decode cX6_name 96 = .ok (.getfield 209, 3) := by decide +kernel
theorem dX6_name_99 : decode cX6_name 99 = .ok (.ireturn, 1) := by decide +kernel
theorem dX6_name_100 : decode cX6_name 100 = .ok (.aload_n 0, 1) := by decide +kernel
theorem dX6_name_101 : decode cX6_name 101 = .ok (.bipush 109, 2) := by decide +kernel
theorem dX6_name_103 : decode cX6_name 103 = .ok (.bipush 105, 2) := by decide +kernel
theorem dX6_name_105 : decode cX6_name 105 = .ok (.bipush 110, 2) := by decide +kernel
theorem dX6_name_107 : decode cX6_name 107 = .ok (.bipush 117, 2) := by decide +kernel
theorem dX6_name_109 : decode cX6_name 109 = .ok (.bipush 116, 2) := by decide +kernel
theorem dX6_name_111 : decode cX6_name 111 = .ok (.bipush 101, 2) := by decide +kernel
theorem dX6_name_113 : decode cX6_name 113 = .ok (.iconst 0, 1) := by decide +kernel
theorem dX6_name_114 : decode cX6_name 114 = .ok (.iconst 0, 1) := by decide +kernel
theorem dX6_name_115 : decode cX6_name 115 = .ok (.invokevirtual 196, 3) := by decide +kernel
theorem dX6_name_118 : decode cX6_name 118 = .ok (.ifCond .eq 8, 3) := by decide +kernel
theorem dX6_name_121 : decode cX6_name 121 = .ok (.aload_n 0, 1) := by decide +kernel
theorem dX6_name_122 : decode cX6_name 122 = .ok (.getfield 212, 3) := by decide +kernel
theorem dX6_name_125 : decode cX6_name 125 = .ok (.ireturn, 1) := by decide +kernel
theorem dX6_name_126 : decode cX6_name 126 = .ok (.aload_n 0, 1) := by decide +kernel
theorem dX6_name_127 : decode cX6_name 127 = .ok (.bipush 119, 2) := by decide +kernel
theorem dX6_name_129 : decode cX6_name 129 = .ok (.bipush 111, 2) := by decide +kernel
theorem dX6_name_131 : decode cX6_name 131 = .ok (.bipush 114, 2) := by decide +kernel
theorem dX6_name_133 : decode cX6_name 133 = .ok (.bipush 110, 2) := by decide +kernel
theorem dX6_name_135 : decode cX6_name 135 = .ok (.iconst 0, 1) := by decide +kernel
theorem dX6_name_136 : decode cX6_name 136 = .ok (.iconst 0, 1) := by decide +kernel
theorem dX6_name_137 : decode cX6_name 137 = .ok (.iconst 0, 1) := by decide +kernel
theorem dX6_name_138 : decode cX6_name 138 = .ok (.iconst 0, 1) := by decide +kernel
theorem dX6_name_139 : decode cX6_name 139 = .ok (.invokevirtual 196, 3) := by decide +kernel
theorem dX6_name_142 : decode cX6_name 142 = .ok (.ifCond .eq 8, 3) := by decide +kernel
theorem dX6_name_145 : decode cX6_name 145 = .ok (.aload_n 0, 1) := by decide +kernel
theorem dX6_name_146 : decode cX6_name 146 = .ok (.getfield 215, 3) := by decide +kernel
theorem dX6_name_149 : decode cX6_name 149 = .ok (.ireturn, 1) := by decide +kernel
theorem dX6_name_150 : decode cX6_name 150 = .ok (.aload_n 0, 1) := by decide +kernel
theorem dX6_name_151 : decode cX6_name 151 = .ok (.invokevirtual 190, 3) := by decide +kernel
theorem dX6_name_154 : decode cX6_name 154 = .ok (.iconst 0, 1) := by decide +kernel
theorem dX6_name_155 : decode cX6_name 155 = .ok (.ireturn, 1) := by decide +kernel
set_option maxRecDepth 20000 in
theorem dX6_atom5_0 : decode cX6_atom5 0 = .ok (.iconst 0, 1) := by decide +kernel
theorem dX6_atom5_1 : decode cX6_atom5 1 = .ok (.istore_n 1, 1) := by decide +kernel
theorem dX6_atom5_2 : decode cX6_atom5 2 = .ok (.aload_n 0, 1) := by decide +kernel
theorem dX6_atom5_3 : decode cX6_atom5 3 = .ok (.bipush 45, 2) := by decide +kernel
theorem dX6_atom5_5 : decode cX6_atom5 5 = .ok (.invokevirtual 218, 3) := by decide +kernel
theorem dX6_atom5_8 : decode cX6_atom5 8 = .ok (.ifCond .eq 11, 3) := by decide +kernel
theorem dX6_atom5_11 : decode cX6_atom5 11 = .ok (.aload_n 0, 1) := by decide +kernel
theorem dX6_atom5_12 : decode cX6_atom5 12 = .ok (.invokevirtual 221, 3) := by decide +kernel
theorem dX6_atom5_15 : decode cX6_atom5 15 = .ok (.pop, 1) := by decide +kernel
theorem dX6_atom5_16 : decode cX6_atom5 16 = .ok (.goto 86, 3) := by decide +kernel
theorem dX6_atom5_19 : decode cX6_atom5 19 = .ok (.aload_n 0, 1) := by decide +kernel
theorem dX6_atom5_20 : decode cX6_atom5 20 = .ok (.bipush 40, 2) := by decide +kernel
theorem dX6_atom5_22 : decode cX6_atom5 22 = .ok (.invokevirtual 218, 3) := by decide +kernel
theorem dX6_atom5_25 : decode cX6_atom5 25 = .ok (.ifCond .eq 11, 3) := by decide +kernel
theorem dX6_atom5_28 : decode cX6_atom5 28 = .ok (.aload_n 0, 1) := by decide +kernel
theorem dX6_atom5_29 : decode cX6_atom5 29 = .ok (.invokevirtual 221, 3) := by decide +kernel
theorem dX6_atom5_32 : decode cX6_atom5 32 = .ok (.pop, 1) := by decide +kernel
theorem dX6_atom5_33 : decode cX6_atom5 33 = .ok (.goto 69, 3) := by decide +kernel
theorem dX6_atom5_36 : decode cX6_atom5 36 = .ok (.aload_n 0, 1) := by decide +kernel
theorem dX6_atom5_37 : decode cX6_atom5 37 = .ok (.getfield 177, 3) := by decide +kernel
theorem dX6_atom5_40 : decode cX6_atom5 40 = .ok (.ifCond .ne 24, 3) := by decide +kernel
theorem dX6_atom5_43 : decode cX6_atom5 43 = .ok (.aload_n 0, 1) := by decide +kernel
theorem dX6_atom5_44 : decode cX6_atom5 44 = .ok (.getfield 161, 3) := by decide +kernel
theorem dX6_atom5_47 : decode cX6_atom5 47 = .ok (.iconst 2, 1) := by decide +kernel
theorem dX6_atom5_48 : decode cX6_atom5 48 = .ok (.if_icmp .ne 16, 3) := by decide +kernel
theorem dX6_atom5_51 : decode cX6_atom5 51 = .ok (.aload_n 0, 1) := by decide +kernel
theorem dX6_atom5_52 : decode cX6_atom5 52 = .ok (.getfield 172, 3) := by decide +kernel
theorem dX6_atom5_55 : decode cX6_atom5 55 = .ok (.l2i, 1) := by decide +kernel
theorem dX6_atom5_56 : decode cX6_atom5 56 = .ok (.istore_n 1, 1) := by decide +kernel
theorem dX6_atom5_57 : decode cX6_atom5 57 = .ok (.aload_n 0, 1) := by decide +kernel
theorem dX6_atom5_58 : decode cX6_atom5 58 = .ok (.invokevirtual 193, 3) := by decide +kernel
theorem dX6_atom5_61 : decode cX6_atom5 61 = .ok (.goto 41, 3) := by decide +kernel
theorem dX6_atom5_64 : decode cX6_atom5 64 = .ok (.aload_n 0, 1) := by decide +kernel
theorem dX6_atom5_65 : decode cX6_atom5 65 = .ok (.getfield 177, 3) := by decide +kernel
theorem dX6_atom5_68 : decode cX6_atom5 68 = .ok (.ifCond .ne 30, 3) := by decide +kernel
theorem dX6_atom5_71 : decode cX6_atom5 71 = .ok (.aload_n 0, 1) := by decide +kernel
theorem dX6_atom5_72 : decode cX6_atom5 72 = .ok (.getfield 161, 3) := by decide +kernel
theorem dX6_atom5_75 : decode cX6_atom5 75 = .ok (.iconst 1, 1) := by decide +kernel
theorem dX6_atom5_76 : decode cX6_atom5 76 = .ok (.if_icmp .ne 22, 3) := by decide +kernel
theorem dX6_atom5_79 : decode cX6_atom5 79 = .ok (.aload_n 0, 1) := by decide +kernel
theorem dX6_atom5_80 : decode cX6_atom5 80 = .ok (.invokevirtual 225, 3) := by decide +kernel
theorem dX6_atom5_83 : decode cX6_atom5 83 = .ok (.istore_n 1, 1) := by decide +kernel
theorem dX6_atom5_84 : decode cX6_atom5 84 = .ok (.aload_n 0, 1) := by decide +kernel
theorem dX6_atom5_85 : decode cX6_atom5 85 = .ok (.getfield 177, 3) := by decide +kernel
theorem dX6_atom5_88 : decode cX6_atom5 88 = .ok (.ifCond .ne 14, 3) := by decide +kernel
theorem dX6_atom5_91 : decode cX6_atom5 91 = .ok (.aload_n 0, 1) := by decide +kernel
theorem dX6_atom5_92 : decode cX6_atom5 92 = .ok (.invokevirtual 193, 3) := by decide +kernel
theorem dX6_atom5_95 : decode cX6_atom5 95 = .ok (.goto 7, 3) := by decide +kernel
theorem dX6_atom5_98 : decode cX6_atom5 98 = .ok (.aload_n 0, 1) := by decide +kernel
theorem dX6_atom5_99 : decode cX6_atom5 99 = .ok (.invokevirtual 190, 3) := by decide +kernel
theorem dX6_atom5_102 : decode cX6_atom5 102 = .ok (.iload_n 1, 1) := by decide +kernel
theorem dX6_atom5_103 : decode cX6_atom5 103 = .ok (.ireturn, 1) := by decide +kernel
set_option maxRecDepth 20000 in
theorem dX6_term5_0 : decode cX6_term5 0 = .ok (.aload_n 0, 1) := by decide +kernel
theorem dX6_term5_1 : decode cX6_term5 1 = .ok (.invokevirtual 229, 3) := by decide +kernel
theorem dX6_term5_4 : decode cX6_term5 4 = .ok (.istore_n 1, 1) := by decide +kernel
theorem dX6_term5_5 : decode cX6_term5 5 = .ok (.aload_n 0, 1) := by decide +kernel
theorem dX6_term5_6 : decode cX6_term5 6 = .ok (.bipush 42, 2) := by decide +kernel
theorem dX6_term5_8 : decode cX6_term5 8 = .ok (.invokevirtual 218, 3) := by decide +kernel
theorem dX6_term5_11 : decode cX6_term5 11 = .ok (.ifCond .eq 17, 3) := by decide +kernel
theorem dX6_term5_14 : decode cX6_term5 14 = .ok (.aload_n 0, 1) := by decide +kernel
theorem dX6_term5_15 : decode cX6_term5 15 = .ok (.invokevirtual 193, 3) := by decide +kernel
theorem dX6_term5_18 : decode cX6_term5 18 = .ok (.iload_n 1, 1) := by decide +kernel
theorem dX6_term5_19 : decode cX6_term5 19 = .ok (.aload_n 0, 1) := by decide +kernel
theorem dX6_term5_20 : decode cX6_term5 20 = .ok (.invokevirtual 229, 3) := by decide +kernel
theorem dX6_term5_23 : decode cX6_term5 23 = .ok (.imul, 1) := by decide +kernel
theorem dX6_term5_24 : decode cX6_term5 24 = .ok (.istore_n 1, 1) := by decide +kernel
theorem dX6_term5_25 : decode cX6_term5 25 = .ok (.goto (-20), 3) := by decide +kernel
theorem dX6_term5_28 : decode cX6_term5 28 = .ok (.iload_n 1, 1) := by decide +kernel
theorem dX6_term5_29 : decode cX6_term5 29 = .ok (.ireturn, 1) := by decide +kernel
set_option maxRecDepth 20000 in
theorem dX6_added5_0 : decode cX6_added5 0 = .ok (.aload_n 0, 1) := by decide +kernel
theorem dX6_added5_1 : decode cX6_added5 1 = .ok (.invokevirtual 232, 3) := by decide +kernel
theorem dX6_added5_4 : decode cX6_added5 4 = .ok (.istore_n 1, 1) := by decide +kernel
theorem dX6_added5_5 : decode cX6_added5 5 = .ok (.aload_n 0, 1) := by decide +kernel
theorem dX6_added5_6 : decode cX6_added5 6 = .ok (.bipush 43, 2) := by decide +kernel
theorem dX6_added5_8 : decode cX6_added5 8 = .ok (.invokevirtual 218, 3) := by decide +kernel
theorem dX6_added5_11 : decode cX6_added5 11 = .ok (.ifCond .ne 12, 3) := by decide +kernel
theorem dX6_added5_14 : decode cX6_added5 14 = .ok (.aload_n 0, 1) := by decide +kernel
theorem dX6_added5_15 : decode cX6_added5 15 = .ok (.bipush 45, 2) := by decide +kernel
theorem dX6_added5_17 : decode cX6_added5 17 = .ok (.invokevirtual 218, 3) := by decide +kernel
theorem dX6_added5_20 : decode cX6_added5 20 = .ok (.ifCond .eq 46, 3) := by decide +kernel
theorem dX6_added5_23 : decode cX6_added5 23 = .ok (.aload_n 0, 1) := by decide +kernel
theorem dX6_added5_24 : decode cX6_added5 24 = .ok (.getfield 172, 3) := by decide +kernel
theorem dX6_added5_27 : decode cX6_added5 27 = .ok (.ldc2_w 235, 3) := by decide +kernel
theorem dX6_added5_30 : decode cX6_added5 30 = .ok (.lcmp, 1) := by decide +kernel
theorem dX6_added5_31 : decode cX6_added5 31 = .ok (.ifCond .ne 7, 3) := by decide +kernel
theorem dX6_added5_34 : decode cX6_added5 34 = .ok (.iconst 1, 1) := by decide +kernel
theorem dX6_added5_35 : decode cX6_added5 35 = .ok (.goto 4, 3) := by decide +kernel
theorem dX6_added5_38 : decode cX6_added5 38 = .ok (.iconst 0, 1) := by decide +kernel
theorem dX6_added5_39 : decode cX6_added5 39 = .ok (.istore_n 2, 1) := by decide +kernel
theorem dX6_added5_40 : decode cX6_added5 40 = .ok (.aload_n 0, 1) := by decide +kernel
theorem dX6_added5_41 : decode cX6_added5 41 = .ok (.invokevirtual 193, 3) := by decide +kernel
theorem dX6_added5_44 : decode cX6_added5 44 = .ok (.aload_n 0, 1) := by decide +kernel
theorem dX6_added5_45 : decode cX6_added5 45 = .ok (.invokevirtual 232, 3) := by decide +kernel
theorem dX6_added5_48 : decode cX6_added5 48 = .ok (.istore_n 3, 1) := by decide +kernel
theorem dX6_added5_49 : decode cX6_added5 49 = .ok (.iload_n 2, 1) := by decide +kernel
theorem dX6_added5_50 : decode cX6_added5 50 = .ok (.ifCond .eq 9, 3) := by decide +kernel
theorem dX6_added5_53 : decode cX6_added5 53 = .ok (.iload_n 1, 1) := by decide +kernel
theorem dX6_added5_54 : decode cX6_added5 54 = .ok (.iload_n 3, 1) := by decide +kernel
theorem dX6_added5_55 : decode cX6_added5 55 = .ok (.iadd, 1) := by decide +kernel
theorem dX6_added5_56 : decode cX6_added5 56 = .ok (.goto 6, 3) := by decide +kernel
theorem dX6_added5_59 : decode cX6_added5 59 = .ok (.iload_n 1, 1) := by decide +kernel
theorem dX6_added5_60 : decode cX6_added5 60 = .ok (.iload_n 3, 1) := by decide +kernel
theorem dX6_added5_61 : decode cX6_added5 61 = .ok (.isub, 1) := by decide +kernel
theorem dX6_added5_62 : decode cX6_added5 62 = .ok (.istore_n 1, 1) := by decide +kernel
theorem dX6_added5_63 : decode cX6_added5 63 = .ok (.goto (-58), 3) := by decide +kernel
theorem dX6_added5_66 : decode cX6_added5 66 = .ok (.iload_n 1, 1) := by decide +kernel
theorem dX6_added5_67 : decode cX6_added5 67 = .ok (.ireturn, 1) := by decide +kernel
set_option maxRecDepth 20000 in
theorem dX6_not5_0 : decode cX6_not5 0 = .ok (.aload_n 0, 1) := by decide +kernel
theorem dX6_not5_1 : decode cX6_not5 1 = .ok (.bipush 110, 2) := by decide +kernel
theorem dX6_not5_3 : decode cX6_not5 3 = .ok (.bipush 111, 2) := by decide +kernel
theorem dX6_not5_5 : decode cX6_not5 5 = .ok (.bipush 116, 2) := by decide +kernel
theorem dX6_not5_7 : decode cX6_not5 7 = .ok (.iconst 0, 1) := by decide +kernel
theorem dX6_not5_8 : decode cX6_not5 8 = .ok (.iconst 0, 1) := by decide +kernel
theorem dX6_not5_9 : decode cX6_not5 9 = .ok (.iconst 0, 1) := by decide +kernel
theorem dX6_not5_10 : decode cX6_not5 10 = .ok (.iconst 0, 1) := by decide +kernel
theorem dX6_not5_11 : decode cX6_not5 11 = .ok (.iconst 0, 1) := by decide +kernel
theorem dX6_not5_12 : decode cX6_not5 12 = .ok (.invokevirtual 196, 3) := by decide +kernel
theorem dX6_not5_15 : decode cX6_not5 15 = .ok (.ifCond .eq 10, 3) := by decide +kernel
theorem dX6_not5_18 : decode cX6_not5 18 = .ok (.aload_n 0, 1) := by decide +kernel
theorem dX6_not5_19 : decode cX6_not5 19 = .ok (.invokevirtual 221, 3) := by decide +kernel
theorem dX6_not5_22 : decode cX6_not5 22 = .ok (.pop, 1) := by decide +kernel
theorem dX6_not5_23 : decode cX6_not5 23 = .ok (.iconst 0, 1) := by decide +kernel
theorem dX6_not5_24 : decode cX6_not5 24 = .ok (.ireturn, 1) := by decide +kernel
theorem dX6_not5_25 : decode cX6_not5 25 = .ok (.aload_n 0, 1) := by decide +kernel
theorem dX6_not5_26 : decode cX6_not5 26 = .ok (.invokevirtual 237, 3) := by decide +kernel
theorem dX6_not5_29 : decode cX6_not5 29 = .ok (.istore_n 1, 1) := by decide +kernel
theorem dX6_not5_30 : decode cX6_not5 30 = .ok (.aload_n 0, 1) := by decide +kernel
theorem dX6_not5_31 : decode cX6_not5 31 = .ok (.bipush 60, 2) := by decide +kernel
theorem dX6_not5_33 : decode cX6_not5 33 = .ok (.invokevirtual 218, 3) := by decide +kernel
theorem dX6_not5_36 : decode cX6_not5 36 = .ok (.ifCond .ne 14, 3) := by decide +kernel
theorem dX6_not5_39 : decode cX6_not5 39 = .ok (.aload_n 0, 1) := by decide +kernel
theorem dX6_not5_40 : decode cX6_not5 40 = .ok (.bipush 61, 2) := by decide +kernel
theorem dX6_not5_42 : decode cX6_not5 42 = .ok (.invokevirtual 218, 3) := by decide +kernel
theorem dX6_not5_45 : decode cX6_not5 45 = .ok (.ifCond .ne 5, 3) := by decide +kernel
theorem dX6_not5_48 : decode cX6_not5 48 = .ok (.iload_n 1, 1) := by decide +kernel
theorem dX6_not5_49 : decode cX6_not5 49 = .ok (.ireturn, 1) := by decide +kernel
theorem dX6_not5_50 : decode cX6_not5 50 = .ok (.aload_n 0, 1) := by decide +kernel
theorem dX6_not5_51 : decode cX6_not5 51 = .ok (.getfield 172, 3) := by decide +kernel
theorem dX6_not5_54 : decode cX6_not5 54 = .ok (.ldc2_w 240, 3) := by decide +kernel
theorem dX6_not5_57 : decode cX6_not5 57 = .ok (.lcmp, 1) := by decide +kernel
theorem dX6_not5_58 : decode cX6_not5 58 = .ok (.ifCond .ne 7, 3) := by decide +kernel
theorem dX6_not5_61 : decode cX6_not5 61 = .ok (.iconst 1, 1) := by decide +kernel
theorem dX6_not5_62 : decode cX6_not5 62 = .ok (.goto 4, 3) := by decide +kernel
theorem dX6_not5_65 : decode cX6_not5 65 = .ok (.iconst 0, 1) := by decide +kernel
theorem dX6_not5_66 : decode cX6_not5 66 = .ok (.istore_n 2, 1) := by decide +kernel
theorem dX6_not5_67 : decode cX6_not5 67 = .ok (.aload_n 0, 1) := by decide +kernel
theorem dX6_not5_68 : decode cX6_not5 68 = .ok (.invokevirtual 193, 3) := by decide +kernel
theorem dX6_not5_71 : decode cX6_not5 71 = .ok (.aload_n 0, 1) := by decide +kernel
theorem dX6_not5_72 : decode cX6_not5 72 = .ok (.invokevirtual 237, 3) := by decide +kernel
theorem dX6_not5_75 : decode cX6_not5 75 = .ok (.istore_n 3, 1) := by decide +kernel
theorem dX6_not5_76 : decode cX6_not5 76 = .ok (.iload_n 2, 1) := by decide +kernel
theorem dX6_not5_77 : decode cX6_not5 77 = .ok (.ifCond .eq 11, 3) := by decide +kernel
theorem dX6_not5_80 : decode cX6_not5 80 = .ok (.iload_n 1, 1) := by decide +kernel
theorem dX6_not5_81 : decode cX6_not5 81 = .ok (.iload_n 3, 1) := by decide +kernel
theorem dX6_not5_82 : decode cX6_not5 82 = .ok (.if_icmp .ge 15, 3) := by decide +kernel
theorem dX6_not5_85 : decode cX6_not5 85 = .ok (.goto 8, 3) := by decide +kernel
theorem dX6_not5_88 : decode cX6_not5 88 = .ok (.iload_n 1, 1) := by decide +kernel
theorem dX6_not5_89 : decode cX6_not5 89 = .ok (.iload_n 3, 1) := by decide +kernel
theorem dX6_not5_90 : decode cX6_not5 90 = .ok (.if_icmp .ne 7, 3) := by decide +kernel
theorem dX6_not5_93 : decode cX6_not5 93 = .ok (.iconst 1, 1) := by decide +kernel
theorem dX6_not5_94 : decode cX6_not5 94 = .ok (.goto 4, 3) := by decide +kernel
theorem dX6_not5_97 : decode cX6_not5 97 = .ok (.iconst 0, 1) := by decide +kernel
theorem dX6_not5_98 : decode cX6_not5 98 = .ok (.ireturn, 1) := by decide +kernel
set_option maxRecDepth 20000 in
theorem dX6_both5_0 : decode cX6_both5 0 = .ok (.aload_n 0, 1) := by decide +kernel
theorem dX6_both5_1 : decode cX6_both5 1 = .ok (.invokevirtual 242, 3) := by decide +kernel
theorem dX6_both5_4 : decode cX6_both5 4 = .ok (.istore_n 1, 1) := by decide +kernel
theorem dX6_both5_5 : decode cX6_both5 5 = .ok (.aload_n 0, 1) := by decide +kernel
theorem dX6_both5_6 : decode cX6_both5 6 = .ok (.bipush 97, 2) := by decide +kernel
theorem dX6_both5_8 : decode cX6_both5 8 = .ok (.bipush 110, 2) := by decide +kernel
theorem dX6_both5_10 : decode cX6_both5 10 = .ok (.bipush 100, 2) := by decide +kernel
theorem dX6_both5_12 : decode cX6_both5 12 = .ok (.iconst 0, 1) := by decide +kernel
theorem dX6_both5_13 : decode cX6_both5 13 = .ok (.iconst 0, 1) := by decide +kernel
theorem dX6_both5_14 : decode cX6_both5 14 = .ok (.iconst 0, 1) := by decide +kernel
theorem dX6_both5_15 : decode cX6_both5 15 = .ok (.iconst 0, 1) := by decide +kernel
theorem dX6_both5_16 : decode cX6_both5 16 = .ok (.iconst 0, 1) := by decide +kernel
theorem dX6_both5_17 : decode cX6_both5 17 = .ok (.invokevirtual 196, 3) := by decide +kernel
theorem dX6_both5_20 : decode cX6_both5 20 = .ok (.ifCond .eq 29, 3) := by decide +kernel
theorem dX6_both5_23 : decode cX6_both5 23 = .ok (.aload_n 0, 1) := by decide +kernel
theorem dX6_both5_24 : decode cX6_both5 24 = .ok (.invokevirtual 193, 3) := by decide +kernel
theorem dX6_both5_27 : decode cX6_both5 27 = .ok (.aload_n 0, 1) := by decide +kernel
theorem dX6_both5_28 : decode cX6_both5 28 = .ok (.invokevirtual 242, 3) := by decide +kernel
theorem dX6_both5_31 : decode cX6_both5 31 = .ok (.istore_n 2, 1) := by decide +kernel
theorem dX6_both5_32 : decode cX6_both5 32 = .ok (.iload_n 1, 1) := by decide +kernel
theorem dX6_both5_33 : decode cX6_both5 33 = .ok (.ifCond .eq 11, 3) := by decide +kernel
theorem dX6_both5_36 : decode cX6_both5 36 = .ok (.iload_n 2, 1) := by decide +kernel
theorem dX6_both5_37 : decode cX6_both5 37 = .ok (.ifCond .eq 7, 3) := by decide +kernel
theorem dX6_both5_40 : decode cX6_both5 40 = .ok (.iconst 1, 1) := by decide +kernel
theorem dX6_both5_41 : decode cX6_both5 41 = .ok (.goto 4, 3) := by decide +kernel
theorem dX6_both5_44 : decode cX6_both5 44 = .ok (.iconst 0, 1) := by decide +kernel
theorem dX6_both5_45 : decode cX6_both5 45 = .ok (.istore_n 1, 1) := by decide +kernel
theorem dX6_both5_46 : decode cX6_both5 46 = .ok (.goto (-41), 3) := by decide +kernel
theorem dX6_both5_49 : decode cX6_both5 49 = .ok (.iload_n 1, 1) := by decide +kernel
theorem dX6_both5_50 : decode cX6_both5 50 = .ok (.ireturn, 1) := by decide +kernel
set_option maxRecDepth 20000 in
theorem dX6_either5_0 : decode cX6_either5 0 = .ok (.aload_n 0, 1) := by decide +kernel
theorem dX6_either5_1 : decode cX6_either5 1 = .ok (.invokevirtual 245, 3) := by decide +kernel
theorem dX6_either5_4 : decode cX6_either5 4 = .ok (.istore_n 1, 1) := by decide +kernel
theorem dX6_either5_5 : decode cX6_either5 5 = .ok (.aload_n 0, 1) := by decide +kernel
theorem dX6_either5_6 : decode cX6_either5 6 = .ok (.bipush 111, 2) := by decide +kernel
theorem dX6_either5_8 : decode cX6_either5 8 = .ok (.bipush 114, 2) := by decide +kernel
theorem dX6_either5_10 : decode cX6_either5 10 = .ok (.iconst 0, 1) := by decide +kernel
theorem dX6_either5_11 : decode cX6_either5 11 = .ok (.iconst 0, 1) := by decide +kernel
theorem dX6_either5_12 : decode cX6_either5 12 = .ok (.iconst 0, 1) := by decide +kernel
theorem dX6_either5_13 : decode cX6_either5 13 = .ok (.iconst 0, 1) := by decide +kernel
theorem dX6_either5_14 : decode cX6_either5 14 = .ok (.iconst 0, 1) := by decide +kernel
theorem dX6_either5_15 : decode cX6_either5 15 = .ok (.iconst 0, 1) := by decide +kernel
theorem dX6_either5_16 : decode cX6_either5 16 = .ok (.invokevirtual 196, 3) := by decide +kernel
theorem dX6_either5_19 : decode cX6_either5 19 = .ok (.ifCond .eq 29, 3) := by decide +kernel
theorem dX6_either5_22 : decode cX6_either5 22 = .ok (.aload_n 0, 1) := by decide +kernel
theorem dX6_either5_23 : decode cX6_either5 23 = .ok (.invokevirtual 193, 3) := by decide +kernel
theorem dX6_either5_26 : decode cX6_either5 26 = .ok (.aload_n 0, 1) := by decide +kernel
theorem dX6_either5_27 : decode cX6_either5 27 = .ok (.invokevirtual 245, 3) := by decide +kernel
theorem dX6_either5_30 : decode cX6_either5 30 = .ok (.istore_n 2, 1) := by decide +kernel
theorem dX6_either5_31 : decode cX6_either5 31 = .ok (.iload_n 1, 1) := by decide +kernel
theorem dX6_either5_32 : decode cX6_either5 32 = .ok (.ifCond .ne 7, 3) := by decide +kernel
theorem dX6_either5_35 : decode cX6_either5 35 = .ok (.iload_n 2, 1) := by decide +kernel
theorem dX6_either5_36 : decode cX6_either5 36 = .ok (.ifCond .eq 7, 3) := by decide +kernel
theorem dX6_either5_39 : decode cX6_either5 39 = .ok (.iconst 1, 1) := by decide +kernel
theorem dX6_either5_40 : decode cX6_either5 40 = .ok (.goto 4, 3) := by decide +kernel
theorem dX6_either5_43 : decode cX6_either5 43 = .ok (.iconst 0, 1) := by decide +kernel
theorem dX6_either5_44 : decode cX6_either5 44 = .ok (.istore_n 1, 1) := by decide +kernel
theorem dX6_either5_45 : decode cX6_either5 45 = .ok (.goto (-40), 3) := by decide +kernel
theorem dX6_either5_48 : decode cX6_either5 48 = .ok (.iload_n 1, 1) := by decide +kernel
theorem dX6_either5_49 : decode cX6_either5 49 = .ok (.ireturn, 1) := by decide +kernel
set_option maxRecDepth 20000 in
theorem dX6_atom4_0 : decode cX6_atom4 0 = .ok (.iconst 0, 1) := by decide +kernel
theorem dX6_atom4_1 : decode cX6_atom4 1 = .ok (.istore_n 1, 1) := by decide +kernel
theorem dX6_atom4_2 : decode cX6_atom4 2 = .ok (.aload_n 0, 1) := by decide +kernel
theorem dX6_atom4_3 : decode cX6_atom4 3 = .ok (.bipush 45, 2) := by decide +kernel
theorem dX6_atom4_5 : decode cX6_atom4 5 = .ok (.invokevirtual 218, 3) := by decide +kernel
theorem dX6_atom4_8 : decode cX6_atom4 8 = .ok (.ifCond .eq 29, 3) := by decide +kernel
theorem dX6_atom4_11 : decode cX6_atom4 11 = .ok (.aload_n 0, 1) := by decide +kernel
theorem dX6_atom4_12 : decode cX6_atom4 12 = .ok (.invokevirtual 221, 3) := by decide +kernel
theorem dX6_atom4_15 : decode cX6_atom4 15 = .ok (.ifCond .eq 146, 3) := by decide +kernel
theorem dX6_atom4_18 : decode cX6_atom4 18 = .ok (.aload_n 0, 1) := by decide +kernel
theorem dX6_atom4_19 : decode cX6_atom4 19 = .ok (.invokevirtual 229, 3) := by decide +kernel
theorem dX6_atom4_22 : decode cX6_atom4 22 = .ok (.ineg, 1) := by decide +kernel
theorem dX6_atom4_23 : decode cX6_atom4 23 = .ok (.istore_n 1, 1) := by decide +kernel
theorem dX6_atom4_24 : decode cX6_atom4 24 = .ok (.aload_n 0, 1) := by decide +kernel
theorem dX6_atom4_25 : decode cX6_atom4 25 = .ok (.dup, 1) := by decide +kernel
theorem dX6_atom4_26 : decode cX6_atom4 26 = .ok (.getfield 187, 3) := by decide +kernel
theorem dX6_atom4_29 : decode cX6_atom4 29 = .ok (.iconst 1, 1) := by decide +kernel
theorem dX6_atom4_30 : decode cX6_atom4 30 = .ok (.isub, 1) := by decide +kernel
theorem dX6_atom4_31 : decode cX6_atom4 31 = .ok (.putfield 187, 3) := by decide +kernel
theorem dX6_atom4_34 : decode cX6_atom4 34 = .ok (.goto 127, 3) := by decide +kernel
theorem dX6_atom4_37 : decode cX6_atom4 37 = .ok (.aload_n 0, 1) := by decide +kernel
theorem dX6_atom4_38 : decode cX6_atom4 38 = .ok (.bipush 40, 2) := by decide +kernel
theorem dX6_atom4_40 : decode cX6_atom4 40 = .ok (.invokevirtual 218, 3) := by decide +kernel
theorem dX6_atom4_43 : decode cX6_atom4 43 = .ok (.ifCond .eq 52, 3) := by decide +kernel
theorem dX6_atom4_46 : decode cX6_atom4 46 = .ok (.aload_n 0, 1) := by decide +kernel
theorem dX6_atom4_47 : decode cX6_atom4 47 = .ok (.invokevirtual 221, 3) := by decide +kernel
theorem dX6_atom4_50 : decode cX6_atom4 50 = .ok (.ifCond .eq 111, 3) := by decide +kernel
theorem dX6_atom4_53 : decode cX6_atom4 53 = .ok (.aload_n 0, 1) := by decide +kernel
theorem dX6_atom4_54 : decode cX6_atom4 54 = .ok (.invokevirtual 248, 3) := by decide +kernel
theorem dX6_atom4_57 : decode cX6_atom4 57 = .ok (.istore_n 1, 1) := by decide +kernel
theorem dX6_atom4_58 : decode cX6_atom4 58 = .ok (.aload_n 0, 1) := by decide +kernel
theorem dX6_atom4_59 : decode cX6_atom4 59 = .ok (.bipush 41, 2) := by decide +kernel
theorem dX6_atom4_61 : decode cX6_atom4 61 = .ok (.invokevirtual 218, 3) := by decide +kernel
theorem dX6_atom4_64 : decode cX6_atom4 64 = .ok (.ifCond .ne 7, 3) := by decide +kernel
theorem dX6_atom4_67 : decode cX6_atom4 67 = .ok (.aload_n 0, 1) := by decide +kernel
theorem dX6_atom4_68 : decode cX6_atom4 68 = .ok (.invokevirtual 190, 3) := by decide +kernel
theorem dX6_atom4_71 : decode cX6_atom4 71 = .ok (.aload_n 0, 1) := by decide +kernel
theorem dX6_atom4_72 : decode cX6_atom4 72 = .ok (.dup, 1) := by decide +kernel
theorem dX6_atom4_73 : decode cX6_atom4 73 = .ok (.getfield 187, 3) := by decide +kernel
theorem dX6_atom4_76 : decode cX6_atom4 76 = .ok (.iconst 1, 1) := by decide +kernel
theorem dX6_atom4_77 : decode cX6_atom4 77 = .ok (.isub, 1) := by decide +kernel
theorem dX6_atom4_78 : decode cX6_atom4 78 = .ok (.putfield 187, 3) := by decide +kernel
theorem dX6_atom4_81 : decode cX6_atom4 81 = .ok (.aload_n 0, 1) := by decide +kernel
theorem dX6_atom4_82 : decode cX6_atom4 82 = .ok (.getfield 177, 3) := by decide +kernel
theorem dX6_atom4_85 : decode cX6_atom4 85 = .ok (.ifCond .ne 76, 3) := by decide +kernel
theorem dX6_atom4_88 : decode cX6_atom4 88 = .ok (.aload_n 0, 1) := by decide +kernel
theorem dX6_atom4_89 : decode cX6_atom4 89 = .ok (.invokevirtual 193, 3) := by decide +kernel
theorem dX6_atom4_92 : decode cX6_atom4 92 = .ok (.goto 69, 3) := by decide +kernel
theorem dX6_atom4_95 : decode cX6_atom4 95 = .ok (.aload_n 0, 1) := by decide +kernel
theorem dX6_atom4_96 : decode cX6_atom4 96 = .ok (.getfield 177, 3) := by decide +kernel
theorem dX6_atom4_99 : decode cX6_atom4 99 = .ok (.ifCond .ne 24, 3) := by decide +kernel
theorem dX6_atom4_102 : decode cX6_atom4 102 = .ok (.aload_n 0, 1) := by decide +kernel
theorem dX6_atom4_103 : decode cX6_atom4 103 = .ok (.getfield 161, 3) := by decide +kernel
theorem dX6_atom4_106 : decode cX6_atom4 106 = .ok (.iconst 2, 1) := by decide +kernel
theorem dX6_atom4_107 : decode cX6_atom4 107 = .ok (.if_icmp .ne 16, 3) := by decide +kernel
theorem dX6_atom4_110 : decode cX6_atom4 110 = .ok (.aload_n 0, 1) := by decide +kernel
theorem dX6_atom4_111 : decode cX6_atom4 111 = .ok (.getfield 172, 3) := by decide +kernel
theorem dX6_atom4_114 : decode cX6_atom4 114 = .ok (.l2i, 1) := by decide +kernel
theorem dX6_atom4_115 : decode cX6_atom4 115 = .ok (.istore_n 1, 1) := by decide +kernel
theorem dX6_atom4_116 : decode cX6_atom4 116 = .ok (.aload_n 0, 1) := by decide +kernel
theorem dX6_atom4_117 : decode cX6_atom4 117 = .ok (.invokevirtual 193, 3) := by decide +kernel
theorem dX6_atom4_120 : decode cX6_atom4 120 = .ok (.goto 41, 3) := by decide +kernel
theorem dX6_atom4_123 : decode cX6_atom4 123 = .ok (.aload_n 0, 1) := by decide +kernel
theorem dX6_atom4_124 : decode cX6_atom4 124 = .ok (.getfield 177, 3) := by decide +kernel
theorem dX6_atom4_127 : decode cX6_atom4 127 = .ok (.ifCond .ne 30, 3) := by decide +kernel
theorem dX6_atom4_130 : decode cX6_atom4 130 = .ok (.aload_n 0, 1) := by decide +kernel
theorem dX6_atom4_131 : decode cX6_atom4 131 = .ok (.getfield 161, 3) := by decide +kernel
theorem dX6_atom4_134 : decode cX6_atom4 134 = .ok (.iconst 1, 1) := by decide +kernel
theorem dX6_atom4_135 : decode cX6_atom4 135 = .ok (.if_icmp .ne 22, 3) := by decide +kernel
theorem dX6_atom4_138 : decode cX6_atom4 138 = .ok (.aload_n 0, 1) := by decide +kernel
theorem dX6_atom4_139 : decode cX6_atom4 139 = .ok (.invokevirtual 225, 3) := by decide +kernel
theorem dX6_atom4_142 : decode cX6_atom4 142 = .ok (.istore_n 1, 1) := by decide +kernel
theorem dX6_atom4_143 : decode cX6_atom4 143 = .ok (.aload_n 0, 1) := by decide +kernel
theorem dX6_atom4_144 : decode cX6_atom4 144 = .ok (.getfield 177, 3) := by decide +kernel
theorem dX6_atom4_147 : decode cX6_atom4 147 = .ok (.ifCond .ne 14, 3) := by decide +kernel
theorem dX6_atom4_150 : decode cX6_atom4 150 = .ok (.aload_n 0, 1) := by decide +kernel
theorem dX6_atom4_151 : decode cX6_atom4 151 = .ok (.invokevirtual 193, 3) := by decide +kernel
theorem dX6_atom4_154 : decode cX6_atom4 154 = .ok (.goto 7, 3) := by decide +kernel
theorem dX6_atom4_157 : decode cX6_atom4 157 = .ok (.aload_n 0, 1) := by decide +kernel
theorem dX6_atom4_158 : decode cX6_atom4 158 = .ok (.invokevirtual 190, 3) := by decide +kernel
theorem dX6_atom4_161 : decode cX6_atom4 161 = .ok (.iload_n 1, 1) := by decide +kernel
theorem dX6_atom4_162 : decode cX6_atom4 162 = .ok (.ireturn, 1) := by decide +kernel
set_option maxRecDepth 20000 in
theorem dX6_term4_0 : decode cX6_term4 0 = .ok (.aload_n 0, 1) := by decide +kernel
theorem dX6_term4_1 : decode cX6_term4 1 = .ok (.invokevirtual 251, 3) := by decide +kernel
theorem dX6_term4_4 : decode cX6_term4 4 = .ok (.istore_n 1, 1) := by decide +kernel
theorem dX6_term4_5 : decode cX6_term4 5 = .ok (.aload_n 0, 1) := by decide +kernel
theorem dX6_term4_6 : decode cX6_term4 6 = .ok (.bipush 42, 2) := by decide +kernel
theorem dX6_term4_8 : decode cX6_term4 8 = .ok (.invokevirtual 218, 3) := by decide +kernel
theorem dX6_term4_11 : decode cX6_term4 11 = .ok (.ifCond .eq 17, 3) := by decide +kernel
theorem dX6_term4_14 : decode cX6_term4 14 = .ok (.aload_n 0, 1) := by decide +kernel
theorem dX6_term4_15 : decode cX6_term4 15 = .ok (.invokevirtual 193, 3) := by decide +kernel
theorem dX6_term4_18 : decode cX6_term4 18 = .ok (.iload_n 1, 1) := by decide +kernel
theorem dX6_term4_19 : decode cX6_term4 19 = .ok (.aload_n 0, 1) := by decide +kernel
theorem dX6_term4_20 : decode cX6_term4 20 = .ok (.invokevirtual 251, 3) := by decide +kernel
theorem dX6_term4_23 : decode cX6_term4 23 = .ok (.imul, 1) := by decide +kernel
theorem dX6_term4_24 : decode cX6_term4 24 = .ok (.istore_n 1, 1) := by decide +kernel
theorem dX6_term4_25 : decode cX6_term4 25 = .ok (.goto (-20), 3) := by decide +kernel
theorem dX6_term4_28 : decode cX6_term4 28 = .ok (.iload_n 1, 1) := by decide +kernel
theorem dX6_term4_29 : decode cX6_term4 29 = .ok (.ireturn, 1) := by decide +kernel
set_option maxRecDepth 20000 in
theorem dX6_added4_0 : decode cX6_added4 0 = .ok (.aload_n 0, 1) := by decide +kernel
theorem dX6_added4_1 : decode cX6_added4 1 = .ok (.invokevirtual 254, 3) := by decide +kernel
theorem dX6_added4_4 : decode cX6_added4 4 = .ok (.istore_n 1, 1) := by decide +kernel
theorem dX6_added4_5 : decode cX6_added4 5 = .ok (.aload_n 0, 1) := by decide +kernel
theorem dX6_added4_6 : decode cX6_added4 6 = .ok (.bipush 43, 2) := by decide +kernel
theorem dX6_added4_8 : decode cX6_added4 8 = .ok (.invokevirtual 218, 3) := by decide +kernel
theorem dX6_added4_11 : decode cX6_added4 11 = .ok (.ifCond .ne 12, 3) := by decide +kernel
theorem dX6_added4_14 : decode cX6_added4 14 = .ok (.aload_n 0, 1) := by decide +kernel
theorem dX6_added4_15 : decode cX6_added4 15 = .ok (.bipush 45, 2) := by decide +kernel
theorem dX6_added4_17 : decode cX6_added4 17 = .ok (.invokevirtual 218, 3) := by decide +kernel
theorem dX6_added4_20 : decode cX6_added4 20 = .ok (.ifCond .eq 46, 3) := by decide +kernel
theorem dX6_added4_23 : decode cX6_added4 23 = .ok (.aload_n 0, 1) := by decide +kernel
theorem dX6_added4_24 : decode cX6_added4 24 = .ok (.getfield 172, 3) := by decide +kernel
theorem dX6_added4_27 : decode cX6_added4 27 = .ok (.ldc2_w 235, 3) := by decide +kernel
theorem dX6_added4_30 : decode cX6_added4 30 = .ok (.lcmp, 1) := by decide +kernel
theorem dX6_added4_31 : decode cX6_added4 31 = .ok (.ifCond .ne 7, 3) := by decide +kernel
theorem dX6_added4_34 : decode cX6_added4 34 = .ok (.iconst 1, 1) := by decide +kernel
end
section
theorem dX6_added4_35 : decode cX6_added4 35 = .ok (.goto 4, 3) := by decide +kernel
theorem dX6_added4_38 : decode cX6_added4 38 = .ok (.iconst 0, 1) := by decide +kernel
theorem dX6_added4_39 : decode cX6_added4 39 = .ok (.istore_n 2, 1) := by decide +kernel
theorem dX6_added4_40 : decode cX6_added4 40 = .ok (.aload_n 0, 1) := by decide +kernel
theorem dX6_added4_41 : decode cX6_added4 41 = .ok (.invokevirtual 193, 3) := by decide +kernel
theorem dX6_added4_44 : decode cX6_added4 44 = .ok (.aload_n 0, 1) := by decide +kernel
theorem dX6_added4_45 : decode cX6_added4 45 = .ok (.invokevirtual 254, 3) := by decide +kernel
theorem dX6_added4_48 : decode cX6_added4 48 = .ok (.istore_n 3, 1) := by decide +kernel
theorem dX6_added4_49 : decode cX6_added4 49 = .ok (.iload_n 2, 1) := by decide +kernel
theorem dX6_added4_50 : decode cX6_added4 50 = .ok (.ifCond .eq 9, 3) := by decide +kernel
theorem dX6_added4_53 : decode cX6_added4 53 = .ok (.iload_n 1, 1) := by decide +kernel
theorem dX6_added4_54 : decode cX6_added4 54 = .ok (.iload_n 3, 1) := by decide +kernel
theorem dX6_added4_55 : decode cX6_added4 55 = .ok (.iadd, 1) := by decide +kernel
theorem dX6_added4_56 : decode cX6_added4 56 = .ok (.goto 6, 3) := by decide +kernel
theorem dX6_added4_59 : decode cX6_added4 59 = .ok (.iload_n 1, 1) := by decide +kernel
theorem dX6_added4_60 : decode cX6_added4 60 = .ok (.iload_n 3, 1) := by decide +kernel
theorem dX6_added4_61 : decode cX6_added4 61 = .ok (.isub, 1) := by decide +kernel
theorem dX6_added4_62 : decode cX6_added4 62 = .ok (.istore_n 1, 1) := by decide +kernel
theorem dX6_added4_63 : decode cX6_added4 63 = .ok (.goto (-58), 3) := by decide +kernel
theorem dX6_added4_66 : decode cX6_added4 66 = .ok (.iload_n 1, 1) := by decide +kernel
theorem dX6_added4_67 : decode cX6_added4 67 = .ok (.ireturn, 1) := by decide +kernel
set_option maxRecDepth 20000 in
theorem dX6_not4_0 : decode cX6_not4 0 = .ok (.aload_n 0, 1) := by decide +kernel
theorem dX6_not4_1 : decode cX6_not4 1 = .ok (.bipush 110, 2) := by decide +kernel
theorem dX6_not4_3 : decode cX6_not4 3 = .ok (.bipush 111, 2) := by decide +kernel
theorem dX6_not4_5 : decode cX6_not4 5 = .ok (.bipush 116, 2) := by decide +kernel
theorem dX6_not4_7 : decode cX6_not4 7 = .ok (.iconst 0, 1) := by decide +kernel
theorem dX6_not4_8 : decode cX6_not4 8 = .ok (.iconst 0, 1) := by decide +kernel
theorem dX6_not4_9 : decode cX6_not4 9 = .ok (.iconst 0, 1) := by decide +kernel
theorem dX6_not4_10 : decode cX6_not4 10 = .ok (.iconst 0, 1) := by decide +kernel
theorem dX6_not4_11 : decode cX6_not4 11 = .ok (.iconst 0, 1) := by decide +kernel
theorem dX6_not4_12 : decode cX6_not4 12 = .ok (.invokevirtual 196, 3) := by decide +kernel
theorem dX6_not4_15 : decode cX6_not4 15 = .ok (.ifCond .eq 37, 3) := by decide +kernel
theorem dX6_not4_18 : decode cX6_not4 18 = .ok (.aload_n 0, 1) := by decide +kernel
theorem dX6_not4_19 : decode cX6_not4 19 = .ok (.invokevirtual 221, 3) := by decide +kernel
theorem dX6_not4_22 : decode cX6_not4 22 = .ok (.ifCond .ne 5, 3) := by decide +kernel
theorem dX6_not4_25 : decode cX6_not4 25 = .ok (.iconst 0, 1) := by decide +kernel
theorem dX6_not4_26 : decode cX6_not4 26 = .ok (.ireturn, 1) := by decide +kernel
theorem dX6_not4_27 : decode cX6_not4 27 = .ok (.aload_n 0, 1) := by decide +kernel
theorem dX6_not4_28 : decode cX6_not4 28 = .ok (.invokevirtual 242, 3) := by decide +kernel
theorem dX6_not4_31 : decode cX6_not4 31 = .ok (.istore_n 1, 1) := by decide +kernel
theorem dX6_not4_32 : decode cX6_not4 32 = .ok (.aload_n 0, 1) := by decide +kernel
theorem dX6_not4_33 : decode cX6_not4 33 = .ok (.dup, 1) := by decide +kernel
theorem dX6_not4_34 : decode cX6_not4 34 = .ok (.getfield 187, 3) := by decide +kernel
theorem dX6_not4_37 : decode cX6_not4 37 = .ok (.iconst 1, 1) := by decide +kernel
theorem dX6_not4_38 : decode cX6_not4 38 = .ok (.isub, 1) := by decide +kernel
theorem dX6_not4_39 : decode cX6_not4 39 = .ok (.putfield 187, 3) := by decide +kernel
theorem dX6_not4_42 : decode cX6_not4 42 = .ok (.iload_n 1, 1) := by decide +kernel
theorem dX6_not4_43 : decode cX6_not4 43 = .ok (.ifCond .ne 7, 3) := by decide +kernel
theorem dX6_not4_46 : decode cX6_not4 46 = .ok (.iconst 1, 1) := by decide +kernel
theorem dX6_not4_47 : decode cX6_not4 47 = .ok (.goto 4, 3) := by decide +kernel
theorem dX6_not4_50 : decode cX6_not4 50 = .ok (.iconst 0, 1) := by decide +kernel
theorem dX6_not4_51 : decode cX6_not4 51 = .ok (.ireturn, 1) := by decide +kernel
theorem dX6_not4_52 : decode cX6_not4 52 = .ok (.aload_n 0, 1) := by decide +kernel
theorem dX6_not4_53 : decode cX6_not4 53 = .ok (.invokevirtual 257, 3) := by decide +kernel
theorem dX6_not4_56 : decode cX6_not4 56 = .ok (.istore_n 1, 1) := by decide +kernel
theorem dX6_not4_57 : decode cX6_not4 57 = .ok (.aload_n 0, 1) := by decide +kernel
theorem dX6_not4_58 : decode cX6_not4 58 = .ok (.bipush 60, 2) := by decide +kernel
theorem dX6_not4_60 : decode cX6_not4 60 = .ok (.invokevirtual 218, 3) := by decide +kernel
theorem dX6_not4_63 : decode cX6_not4 63 = .ok (.ifCond .ne 14, 3) := by decide +kernel
theorem dX6_not4_66 : decode cX6_not4 66 = .ok (.aload_n 0, 1) := by decide +kernel
theorem dX6_not4_67 : decode cX6_not4 67 = .ok (.bipush 61, 2) := by decide +kernel
theorem dX6_not4_69 : decode cX6_not4 69 = .ok (.invokevirtual 218, 3) := by decide +kernel
theorem dX6_not4_72 : decode cX6_not4 72 = .ok (.ifCond .ne 5, 3) := by decide +kernel
theorem dX6_not4_75 : decode cX6_not4 75 = .ok (.iload_n 1, 1) := by decide +kernel
theorem dX6_not4_76 : decode cX6_not4 76 = .ok (.ireturn, 1) := by decide +kernel
theorem dX6_not4_77 : decode cX6_not4 77 = .ok (.aload_n 0, 1) := by decide +kernel
theorem dX6_not4_78 : decode cX6_not4 78 = .ok (.getfield 172, 3) := by decide +kernel
theorem dX6_not4_81 : decode cX6_not4 81 = .ok (.ldc2_w 240, 3) := by decide +kernel
theorem dX6_not4_84 : decode cX6_not4 84 = .ok (.lcmp, 1) := by decide +kernel
theorem dX6_not4_85 : decode cX6_not4 85 = .ok (.ifCond .ne 7, 3) := by decide +kernel
theorem dX6_not4_88 : decode cX6_not4 88 = .ok (.iconst 1, 1) := by decide +kernel
theorem dX6_not4_89 : decode cX6_not4 89 = .ok (.goto 4, 3) := by decide +kernel
theorem dX6_not4_92 : decode cX6_not4 92 = .ok (.iconst 0, 1) := by decide +kernel
theorem dX6_not4_93 : decode cX6_not4 93 = .ok (.istore_n 2, 1) := by decide +kernel
theorem dX6_not4_94 : decode cX6_not4 94 = .ok (.aload_n 0, 1) := by decide +kernel
theorem dX6_not4_95 : decode cX6_not4 95 = .ok (.invokevirtual 193, 3) := by decide +kernel
theorem dX6_not4_98 : decode cX6_not4 98 = .ok (.aload_n 0, 1) := by decide +kernel
theorem dX6_not4_99 : decode cX6_not4 99 = .ok (.invokevirtual 257, 3) := by decide +kernel
theorem dX6_not4_102 : decode cX6_not4 102 = .ok (.istore_n 3, 1) := by decide +kernel
theorem dX6_not4_103 : decode cX6_not4 103 = .ok (.iload_n 2, 1) := by decide +kernel
theorem dX6_not4_104 : decode cX6_not4 104 = .ok (.ifCond .eq 11, 3) := by decide +kernel
theorem dX6_not4_107 : decode cX6_not4 107 = .ok (.iload_n 1, 1) := by decide +kernel
theorem dX6_not4_108 : decode cX6_not4 108 = .ok (.iload_n 3, 1) := by decide +kernel
theorem dX6_not4_109 : decode cX6_not4 109 = .ok (.if_icmp .ge 15, 3) := by decide +kernel
theorem dX6_not4_112 : decode cX6_not4 112 = .ok (.goto 8, 3) := by decide +kernel
theorem dX6_not4_115 : decode cX6_not4 115 = .ok (.iload_n 1, 1) := by decide +kernel
theorem dX6_not4_116 : decode cX6_not4 116 = .ok (.iload_n 3, 1) := by decide +kernel
theorem dX6_not4_117 : decode cX6_not4 117 = .ok (.if_icmp .ne 7, 3) := by decide +kernel
theorem dX6_not4_120 : decode cX6_not4 120 = .ok (.iconst 1, 1) := by decide +kernel
theorem dX6_not4_121 : decode cX6_not4 121 = .ok (.goto 4, 3) := by decide +kernel
theorem dX6_not4_124 : decode cX6_not4 124 = .ok (.iconst 0, 1) := by decide +kernel
theorem dX6_not4_125 : decode cX6_not4 125 = .ok (.ireturn, 1) := by decide +kernel
set_option maxRecDepth 20000 in
theorem dX6_both4_0 : decode cX6_both4 0 = .ok (.aload_n 0, 1) := by decide +kernel
theorem dX6_both4_1 : decode cX6_both4 1 = .ok (.invokevirtual 260, 3) := by decide +kernel
theorem dX6_both4_4 : decode cX6_both4 4 = .ok (.istore_n 1, 1) := by decide +kernel
theorem dX6_both4_5 : decode cX6_both4 5 = .ok (.aload_n 0, 1) := by decide +kernel
theorem dX6_both4_6 : decode cX6_both4 6 = .ok (.bipush 97, 2) := by decide +kernel
theorem dX6_both4_8 : decode cX6_both4 8 = .ok (.bipush 110, 2) := by decide +kernel
theorem dX6_both4_10 : decode cX6_both4 10 = .ok (.bipush 100, 2) := by decide +kernel
theorem dX6_both4_12 : decode cX6_both4 12 = .ok (.iconst 0, 1) := by decide +kernel
theorem dX6_both4_13 : decode cX6_both4 13 = .ok (.iconst 0, 1) := by decide +kernel
theorem dX6_both4_14 : decode cX6_both4 14 = .ok (.iconst 0, 1) := by decide +kernel
theorem dX6_both4_15 : decode cX6_both4 15 = .ok (.iconst 0, 1) := by decide +kernel
theorem dX6_both4_16 : decode cX6_both4 16 = .ok (.iconst 0, 1) := by decide +kernel
theorem dX6_both4_17 : decode cX6_both4 17 = .ok (.invokevirtual 196, 3) := by decide +kernel
theorem dX6_both4_20 : decode cX6_both4 20 = .ok (.ifCond .eq 29, 3) := by decide +kernel
theorem dX6_both4_23 : decode cX6_both4 23 = .ok (.aload_n 0, 1) := by decide +kernel
theorem dX6_both4_24 : decode cX6_both4 24 = .ok (.invokevirtual 193, 3) := by decide +kernel
theorem dX6_both4_27 : decode cX6_both4 27 = .ok (.aload_n 0, 1) := by decide +kernel
theorem dX6_both4_28 : decode cX6_both4 28 = .ok (.invokevirtual 260, 3) := by decide +kernel
theorem dX6_both4_31 : decode cX6_both4 31 = .ok (.istore_n 2, 1) := by decide +kernel
theorem dX6_both4_32 : decode cX6_both4 32 = .ok (.iload_n 1, 1) := by decide +kernel
theorem dX6_both4_33 : decode cX6_both4 33 = .ok (.ifCond .eq 11, 3) := by decide +kernel
theorem dX6_both4_36 : decode cX6_both4 36 = .ok (.iload_n 2, 1) := by decide +kernel
theorem dX6_both4_37 : decode cX6_both4 37 = .ok (.ifCond .eq 7, 3) := by decide +kernel
theorem dX6_both4_40 : decode cX6_both4 40 = .ok (.iconst 1, 1) := by decide +kernel
theorem dX6_both4_41 : decode cX6_both4 41 = .ok (.goto 4, 3) := by decide +kernel
theorem dX6_both4_44 : decode cX6_both4 44 = .ok (.iconst 0, 1) := by decide +kernel
theorem dX6_both4_45 : decode cX6_both4 45 = .ok (.istore_n 1, 1) := by decide +kernel
theorem dX6_both4_46 : decode cX6_both4 46 = .ok (.goto (-41), 3) := by decide +kernel
theorem dX6_both4_49 : decode cX6_both4 49 = .ok (.iload_n 1, 1) := by decide +kernel
theorem dX6_both4_50 : decode cX6_both4 50 = .ok (.ireturn, 1) := by decide +kernel
set_option maxRecDepth 20000 in
theorem dX6_either4_0 : decode cX6_either4 0 = .ok (.aload_n 0, 1) := by decide +kernel
theorem dX6_either4_1 : decode cX6_either4 1 = .ok (.invokevirtual 263, 3) := by decide +kernel
theorem dX6_either4_4 : decode cX6_either4 4 = .ok (.istore_n 1, 1) := by decide +kernel
theorem dX6_either4_5 : decode cX6_either4 5 = .ok (.aload_n 0, 1) := by decide +kernel
theorem dX6_either4_6 : decode cX6_either4 6 = .ok (.bipush 111, 2) := by decide +kernel
theorem dX6_either4_8 : decode cX6_either4 8 = .ok (.bipush 114, 2) := by decide +kernel
theorem dX6_either4_10 : decode cX6_either4 10 = .ok (.iconst 0, 1) := by decide +kernel
theorem dX6_either4_11 : decode cX6_either4 11 = .ok (.iconst 0, 1) := by decide +kernel
theorem dX6_either4_12 : decode cX6_either4 12 = .ok (.iconst 0, 1) := by decide +kernel
theorem dX6_either4_13 : decode cX6_either4 13 = .ok (.iconst 0, 1) := by decide +kernel
theorem dX6_either4_14 : decode cX6_either4 14 = .ok (.iconst 0, 1) := by decide +kernel
theorem dX6_either4_15 : decode cX6_either4 15 = .ok (.iconst 0, 1) := by decide +kernel
theorem dX6_either4_16 : decode cX6_either4 16 = .ok (.invokevirtual 196, 3) := by decide +kernel
theorem dX6_either4_19 : decode cX6_either4 19 = .ok (.ifCond .eq 29, 3) := by decide +kernel
theorem dX6_either4_22 : decode cX6_either4 22 = .ok (.aload_n 0, 1) := by decide +kernel
theorem dX6_either4_23 : decode cX6_either4 23 = .ok (.invokevirtual 193, 3) := by decide +kernel
theorem dX6_either4_26 : decode cX6_either4 26 = .ok (.aload_n 0, 1) := by decide +kernel
theorem dX6_either4_27 : decode cX6_either4 27 = .ok (.invokevirtual 263, 3) := by decide +kernel
theorem dX6_either4_30 : decode cX6_either4 30 = .ok (.istore_n 2, 1) := by decide +kernel
theorem dX6_either4_31 : decode cX6_either4 31 = .ok (.iload_n 1, 1) := by decide +kernel
theorem dX6_either4_32 : decode cX6_either4 32 = .ok (.ifCond .ne 7, 3) := by decide +kernel
theorem dX6_either4_35 : decode cX6_either4 35 = .ok (.iload_n 2, 1) := by decide +kernel
theorem dX6_either4_36 : decode cX6_either4 36 = .ok (.ifCond .eq 7, 3) := by decide +kernel
theorem dX6_either4_39 : decode cX6_either4 39 = .ok (.iconst 1, 1) := by decide +kernel
theorem dX6_either4_40 : decode cX6_either4 40 = .ok (.goto 4, 3) := by decide +kernel
theorem dX6_either4_43 : decode cX6_either4 43 = .ok (.iconst 0, 1) := by decide +kernel
theorem dX6_either4_44 : decode cX6_either4 44 = .ok (.istore_n 1, 1) := by decide +kernel
theorem dX6_either4_45 : decode cX6_either4 45 = .ok (.goto (-40), 3) := by decide +kernel
theorem dX6_either4_48 : decode cX6_either4 48 = .ok (.iload_n 1, 1) := by decide +kernel
theorem dX6_either4_49 : decode cX6_either4 49 = .ok (.ireturn, 1) := by decide +kernel
set_option maxRecDepth 20000 in
theorem dX6_atom3_0 : decode cX6_atom3 0 = .ok (.iconst 0, 1) := by decide +kernel
theorem dX6_atom3_1 : decode cX6_atom3 1 = .ok (.istore_n 1, 1) := by decide +kernel
theorem dX6_atom3_2 : decode cX6_atom3 2 = .ok (.aload_n 0, 1) := by decide +kernel
theorem dX6_atom3_3 : decode cX6_atom3 3 = .ok (.bipush 45, 2) := by decide +kernel
theorem dX6_atom3_5 : decode cX6_atom3 5 = .ok (.invokevirtual 218, 3) := by decide +kernel
theorem dX6_atom3_8 : decode cX6_atom3 8 = .ok (.ifCond .eq 29, 3) := by decide +kernel
theorem dX6_atom3_11 : decode cX6_atom3 11 = .ok (.aload_n 0, 1) := by decide +kernel
theorem dX6_atom3_12 : decode cX6_atom3 12 = .ok (.invokevirtual 221, 3) := by decide +kernel
theorem dX6_atom3_15 : decode cX6_atom3 15 = .ok (.ifCond .eq 146, 3) := by decide +kernel
theorem dX6_atom3_18 : decode cX6_atom3 18 = .ok (.aload_n 0, 1) := by decide +kernel
theorem dX6_atom3_19 : decode cX6_atom3 19 = .ok (.invokevirtual 251, 3) := by decide +kernel
theorem dX6_atom3_22 : decode cX6_atom3 22 = .ok (.ineg, 1) := by decide +kernel
theorem dX6_atom3_23 : decode cX6_atom3 23 = .ok (.istore_n 1, 1) := by decide +kernel
theorem dX6_atom3_24 : decode cX6_atom3 24 = .ok (.aload_n 0, 1) := by decide +kernel
theorem dX6_atom3_25 : decode cX6_atom3 25 = .ok (.dup, 1) := by decide +kernel
theorem dX6_atom3_26 : decode cX6_atom3 26 = .ok (.getfield 187, 3) := by decide +kernel
theorem dX6_atom3_29 : decode cX6_atom3 29 = .ok (.iconst 1, 1) := by decide +kernel
theorem dX6_atom3_30 : decode cX6_atom3 30 = .ok (.isub, 1) := by decide +kernel
theorem dX6_atom3_31 : decode cX6_atom3 31 = .ok (.putfield 187, 3) := by decide +kernel
theorem dX6_atom3_34 : decode cX6_atom3 34 = .ok (.goto 127, 3) := by decide +kernel
theorem dX6_atom3_37 : decode cX6_atom3 37 = .ok (.aload_n 0, 1) := by decide +kernel
theorem dX6_atom3_38 : decode cX6_atom3 38 = .ok (.bipush 40, 2) := by decide +kernel
theorem dX6_atom3_40 : decode cX6_atom3 40 = .ok (.invokevirtual 218, 3) := by decide +kernel
theorem dX6_atom3_43 : decode cX6_atom3 43 = .ok (.ifCond .eq 52, 3) := by decide +kernel
theorem dX6_atom3_46 : decode cX6_atom3 46 = .ok (.aload_n 0, 1) := by decide +kernel
theorem dX6_atom3_47 : decode cX6_atom3 47 = .ok (.invokevirtual 221, 3) := by decide +kernel
theorem dX6_atom3_50 : decode cX6_atom3 50 = .ok (.ifCond .eq 111, 3) := by decide +kernel
theorem dX6_atom3_53 : decode cX6_atom3 53 = .ok (.aload_n 0, 1) := by decide +kernel
theorem dX6_atom3_54 : decode cX6_atom3 54 = .ok (.invokevirtual 266, 3) := by decide +kernel
theorem dX6_atom3_57 : decode cX6_atom3 57 = .ok (.istore_n 1, 1) := by decide +kernel
theorem dX6_atom3_58 : decode cX6_atom3 58 = .ok (.aload_n 0, 1) := by decide +kernel
theorem dX6_atom3_59 : decode cX6_atom3 59 = .ok (.bipush 41, 2) := by decide +kernel
theorem dX6_atom3_61 : decode cX6_atom3 61 = .ok (.invokevirtual 218, 3) := by decide +kernel
theorem dX6_atom3_64 : decode cX6_atom3 64 = .ok (.ifCond .ne 7, 3) := by decide +kernel
theorem dX6_atom3_67 : decode cX6_atom3 67 = .ok (.aload_n 0, 1) := by decide +kernel
theorem dX6_atom3_68 : decode cX6_atom3 68 = .ok (.invokevirtual 190, 3) := by decide +kernel
theorem dX6_atom3_71 : decode cX6_atom3 71 = .ok (.aload_n 0, 1) := by decide +kernel
theorem dX6_atom3_72 : decode cX6_atom3 72 = .ok (.dup, 1) := by decide +kernel
theorem dX6_atom3_73 : decode cX6_atom3 73 = .ok (.getfield 187, 3) := by decide +kernel
theorem dX6_atom3_76 : decode cX6_atom3 76 = .ok (.iconst 1, 1) := by decide +kernel
theorem dX6_atom3_77 : decode cX6_atom3 77 = .ok (.isub, 1) := by decide +kernel
theorem dX6_atom3_78 : decode cX6_atom3 78 = .ok (.putfield 187, 3) := by decide +kernel
theorem dX6_atom3_81 : decode cX6_atom3 81 = .ok (.aload_n 0, 1) := by decide +kernel
theorem dX6_atom3_82 : decode cX6_atom3 82 = .ok (.getfield 177, 3) := by decide +kernel
theorem dX6_atom3_85 : decode cX6_atom3 85 = .ok (.ifCond .ne 76, 3) := by decide +kernel
theorem dX6_atom3_88 : decode cX6_atom3 88 = .ok (.aload_n 0, 1) := by decide +kernel
theorem dX6_atom3_89 : decode cX6_atom3 89 = .ok (.invokevirtual 193, 3) := by decide +kernel
theorem dX6_atom3_92 : decode cX6_atom3 92 = .ok (.goto 69, 3) := by decide +kernel
theorem dX6_atom3_95 : decode cX6_atom3 95 = .ok (.aload_n 0, 1) := by decide +kernel
theorem dX6_atom3_96 : decode cX6_atom3 96 = .ok (.getfield 177, 3) := by decide +kernel
theorem dX6_atom3_99 : decode cX6_atom3 99 = .ok (.ifCond .ne 24, 3) := by decide +kernel
theorem dX6_atom3_102 : decode cX6_atom3 102 = .ok (.aload_n 0, 1) := by decide +kernel
theorem dX6_atom3_103 : decode cX6_atom3 103 = .ok (.getfield 161, 3) := by decide +kernel
theorem dX6_atom3_106 : decode cX6_atom3 106 = .ok (.iconst 2, 1) := by decide +kernel
theorem dX6_atom3_107 : decode cX6_atom3 107 = .ok (.if_icmp .ne 16, 3) := by decide +kernel
theorem dX6_atom3_110 : decode cX6_atom3 110 = .ok (.aload_n 0, 1) := by decide +kernel
theorem dX6_atom3_111 : decode cX6_atom3 111 = .ok (.getfield 172, 3) := by decide +kernel
theorem dX6_atom3_114 : decode cX6_atom3 114 = .ok (.l2i, 1) := by decide +kernel
theorem dX6_atom3_115 : decode cX6_atom3 115 = .ok (.istore_n 1, 1) := by decide +kernel
theorem dX6_atom3_116 : decode cX6_atom3 116 = .ok (.aload_n 0, 1) := by decide +kernel
theorem dX6_atom3_117 : decode cX6_atom3 117 = .ok (.invokevirtual 193, 3) := by decide +kernel
theorem dX6_atom3_120 : decode cX6_atom3 120 = .ok (.goto 41, 3) := by decide +kernel
theorem dX6_atom3_123 : decode cX6_atom3 123 = .ok (.aload_n 0, 1) := by decide +kernel
theorem dX6_atom3_124 : decode cX6_atom3 124 = .ok (.getfield 177, 3) := by decide +kernel
theorem dX6_atom3_127 : decode cX6_atom3 127 = .ok (.ifCond .ne 30, 3) := by decide +kernel
theorem dX6_atom3_130 : decode cX6_atom3 130 = .ok (.aload_n 0, 1) := by decide +kernel
theorem dX6_atom3_131 : decode cX6_atom3 131 = .ok (.getfield 161, 3) := by decide +kernel
theorem dX6_atom3_134 : decode cX6_atom3 134 = .ok (.iconst 1, 1) := by decide +kernel
theorem dX6_atom3_135 : decode cX6_atom3 135 = .ok (.if_icmp .ne 22, 3) := by decide +kernel
theorem dX6_atom3_138 : decode cX6_atom3 138 = .ok (.aload_n 0, 1) := by decide +kernel
theorem dX6_atom3_139 : decode cX6_atom3 139 = .ok (.invokevirtual 225, 3) := by decide +kernel
theorem dX6_atom3_142 : decode cX6_atom3 142 = .ok (.istore_n 1, 1) := by decide +kernel
theorem dX6_atom3_143 : decode cX6_atom3 143 = .ok (.aload_n 0, 1) := by decide +kernel
theorem dX6_atom3_144 : decode cX6_atom3 144 = .ok (.getfield 177, 3) := by decide +kernel
theorem dX6_atom3_147 : decode cX6_atom3 147 = .ok (.ifCond .ne 14, 3) := by decide +kernel
theorem dX6_atom3_150 : decode cX6_atom3 150 = .ok (.aload_n 0, 1) := by decide +kernel
theorem dX6_atom3_151 : decode cX6_atom3 151 = .ok (.invokevirtual 193, 3) := by decide +kernel
theorem dX6_atom3_154 : decode cX6_atom3 154 = .ok (.goto 7, 3) := by decide +kernel
theorem dX6_atom3_157 : decode cX6_atom3 157 = .ok (.aload_n 0, 1) := by decide +kernel
theorem dX6_atom3_158 : decode cX6_atom3 158 = .ok (.invokevirtual 190, 3) := by decide +kernel
theorem dX6_atom3_161 : decode cX6_atom3 161 = .ok (.iload_n 1, 1) := by decide +kernel
theorem dX6_atom3_162 : decode cX6_atom3 162 = .ok (.ireturn, 1) := by decide +kernel
set_option maxRecDepth 20000 in
theorem dX6_term3_0 : decode cX6_term3 0 = .ok (.aload_n 0, 1) := by decide +kernel
theorem dX6_term3_1 : decode cX6_term3 1 = .ok (.invokevirtual 269, 3) := by decide +kernel
theorem dX6_term3_4 : decode cX6_term3 4 = .ok (.istore_n 1, 1) := by decide +kernel
theorem dX6_term3_5 : decode cX6_term3 5 = .ok (.aload_n 0, 1) := by decide +kernel
theorem dX6_term3_6 : decode cX6_term3 6 = .ok (.bipush 42, 2) := by decide +kernel
theorem dX6_term3_8 : decode cX6_term3 8 = .ok (.invokevirtual 218, 3) := by decide +kernel
theorem dX6_term3_11 : decode cX6_term3 11 = .ok (.ifCond .eq 17, 3) := by decide +kernel
theorem dX6_term3_14 : decode cX6_term3 14 = .ok (.aload_n 0, 1) := by decide +kernel
theorem dX6_term3_15 : decode cX6_term3 15 = .ok (.invokevirtual 193, 3) := by decide +kernel
theorem dX6_term3_18 : decode cX6_term3 18 = .ok (.iload_n 1, 1) := by decide +kernel
theorem dX6_term3_19 : decode cX6_term3 19 = .ok (.aload_n 0, 1) := by decide +kernel
theorem dX6_term3_20 : decode cX6_term3 20 = .ok (.invokevirtual 269, 3) := by decide +kernel
theorem dX6_term3_23 : decode cX6_term3 23 = .ok (.imul, 1) := by decide +kernel
theorem dX6_term3_24 : decode cX6_term3 24 = .ok (.istore_n 1, 1) := by decide +kernel
theorem dX6_term3_25 : decode cX6_term3 25 = .ok (.goto (-20), 3) := by decide +kernel
theorem dX6_term3_28 : decode cX6_term3 28 = .ok (.iload_n 1, 1) := by decide +kernel
theorem dX6_term3_29 : decode cX6_term3 29 = .ok (.ireturn, 1) := by decide +kernel
set_option maxRecDepth 20000 in
theorem dX6_added3_0 : decode cX6_added3 0 = .ok (.aload_n 0, 1) := by decide +kernel
theorem dX6_added3_1 : decode cX6_added3 1 = .ok (.invokevirtual 272, 3) := by decide +kernel
theorem dX6_added3_4 : decode cX6_added3 4 = .ok (.istore_n 1, 1) := by decide +kernel
theorem dX6_added3_5 : decode cX6_added3 5 = .ok (.aload_n 0, 1) := by decide +kernel
theorem dX6_added3_6 : decode cX6_added3 6 = .ok (.bipush 43, 2) := by decide +kernel
theorem dX6_added3_8 : decode cX6_added3 8 = .ok (.invokevirtual 218, 3) := by decide +kernel
theorem dX6_added3_11 : decode cX6_added3 11 = .ok (.ifCond .ne 12, 3) := by decide +kernel
theorem dX6_added3_14 : decode cX6_added3 14 = .ok (.aload_n 0, 1) := by decide +kernel
theorem dX6_added3_15 : decode cX6_added3 15 = .ok (.bipush 45, 2) := by decide +kernel
theorem dX6_added3_17 : decode cX6_added3 17 = .ok (.invokevirtual 218, 3) := by decide +kernel
theorem dX6_added3_20 : decode cX6_added3 20 = .ok (.ifCond .eq 46, 3) := by decide +kernel
theorem dX6_added3_23 : decode cX6_added3 23 = .ok (.aload_n 0, 1) := by decide +kernel
theorem dX6_added3_24 : decode cX6_added3 24 = .ok (.getfield 172, 3) := by decide +kernel
theorem dX6_added3_27 : decode cX6_added3 27 = .ok (.ldc2_w 235, 3) := by decide +kernel
theorem dX6_added3_30 : decode cX6_added3 30 = .ok (.lcmp, 1) := by decide +kernel
theorem dX6_added3_31 : decode cX6_added3 31 = .ok (.ifCond .ne 7, 3) := by decide +kernel
theorem dX6_added3_34 : decode cX6_added3 34 = .ok (.iconst 1, 1) := by decide +kernel
theorem dX6_added3_35 : decode cX6_added3 35 = .ok (.goto 4, 3) := by decide +kernel
theorem dX6_added3_38 : decode cX6_added3 38 = .ok (.iconst 0, 1) := by decide +kernel
theorem dX6_added3_39 : decode cX6_added3 39 = .ok (.istore_n 2, 1) := by decide +kernel
theorem dX6_added3_40 : decode cX6_added3 40 = .ok (.aload_n 0, 1) := by decide +kernel
theorem dX6_added3_41 : decode cX6_added3 41 = .ok (.invokevirtual 193, 3) := by decide +kernel
theorem dX6_added3_44 : decode cX6_added3 44 = .ok (.aload_n 0, 1) := by decide +kernel
theorem dX6_added3_45 : decode cX6_added3 45 = .ok (.invokevirtual 272, 3) := by decide +kernel
theorem dX6_added3_48 : decode cX6_added3 48 = .ok (.istore_n 3, 1) := by decide +kernel
theorem dX6_added3_49 : decode cX6_added3 49 = .ok (.iload_n 2, 1) := by decide +kernel
theorem dX6_added3_50 : decode cX6_added3 50 = .ok (.ifCond .eq 9, 3) := by decide +kernel
theorem dX6_added3_53 : decode cX6_added3 53 = .ok (.iload_n 1, 1) := by decide +kernel
theorem dX6_added3_54 : decode cX6_added3 54 = .ok (.iload_n 3, 1) := by decide +kernel
theorem dX6_added3_55 : decode cX6_added3 55 = .ok (.iadd, 1) := by decide +kernel
theorem dX6_added3_56 : decode cX6_added3 56 = .ok (.goto 6, 3) := by decide +kernel
theorem dX6_added3_59 : decode cX6_added3 59 = .ok (.iload_n 1, 1) := by decide +kernel
theorem dX6_added3_60 : decode cX6_added3 60 = .ok (.iload_n 3, 1) := by decide +kernel
theorem dX6_added3_61 : decode cX6_added3 61 = .ok (.isub, 1) := by decide +kernel
theorem dX6_added3_62 : decode cX6_added3 62 = .ok (.istore_n 1, 1) := by decide +kernel
theorem dX6_added3_63 : decode cX6_added3 63 = .ok (.goto (-58), 3) := by decide +kernel
theorem dX6_added3_66 : decode cX6_added3 66 = .ok (.iload_n 1, 1) := by decide +kernel
theorem dX6_added3_67 : decode cX6_added3 67 = .ok (.ireturn, 1) := by decide +kernel
set_option maxRecDepth 20000 in
theorem dX6_not3_0 : decode cX6_not3 0 = .ok (.aload_n 0, 1) := by decide +kernel
theorem dX6_not3_1 : decode cX6_not3 1 = .ok (.bipush 110, 2) := by decide +kernel
theorem dX6_not3_3 : decode cX6_not3 3 = .ok (.bipush 111, 2) := by decide +kernel
theorem dX6_not3_5 : decode cX6_not3 5 = .ok (.bipush 116, 2) := by decide +kernel
theorem dX6_not3_7 : decode cX6_not3 7 = .ok (.iconst 0, 1) := by decide +kernel
theorem dX6_not3_8 : decode cX6_not3 8 = .ok (.iconst 0, 1) := by decide +kernel
theorem dX6_not3_9 : decode cX6_not3 9 = .ok (.iconst 0, 1) := by decide +kernel
theorem dX6_not3_10 : decode cX6_not3 10 = .ok (.iconst 0, 1) := by decide +kernel
theorem dX6_not3_11 : decode cX6_not3 11 = .ok (.iconst 0, 1) := by decide +kernel
theorem dX6_not3_12 : decode cX6_not3 12 = .ok (.invokevirtual 196, 3) := by decide +kernel
theorem dX6_not3_15 : decode cX6_not3 15 = .ok (.ifCond .eq 37, 3) := by decide +kernel
theorem dX6_not3_18 : decode cX6_not3 18 = .ok (.aload_n 0, 1) := by decide +kernel
theorem dX6_not3_19 : decode cX6_not3 19 = .ok (.invokevirtual 221, 3) := by decide +kernel
theorem dX6_not3_22 : decode cX6_not3 22 = .ok (.ifCond .ne 5, 3) := by decide +kernel
theorem dX6_not3_25 : decode cX6_not3 25 = .ok (.iconst 0, 1) := by decide +kernel
theorem dX6_not3_26 : decode cX6_not3 26 = .ok (.ireturn, 1) := by decide +kernel
theorem dX6_not3_27 : decode cX6_not3 27 = .ok (.aload_n 0, 1) := by decide +kernel
theorem dX6_not3_28 : decode cX6_not3 28 = .ok (.invokevirtual 260, 3) := by decide +kernel
theorem dX6_not3_31 : decode cX6_not3 31 = .ok (.istore_n 1, 1) := by decide +kernel
theorem dX6_not3_32 : decode cX6_not3 32 = .ok (.aload_n 0, 1) := by decide +kernel
theorem dX6_not3_33 : decode cX6_not3 33 = .ok (.dup, 1) := by decide +kernel
theorem dX6_not3_34 : decode cX6_not3 34 = .ok (.getfield 187, 3) := by decide +kernel
theorem dX6_not3_37 : decode cX6_not3 37 = .ok (.iconst 1, 1) := by decide +kernel
theorem dX6_not3_38 : decode cX6_not3 38 = .ok (.isub, 1) := by decide +kernel
theorem dX6_not3_39 : decode cX6_not3 39 = .ok (.putfield 187, 3) := by decide +kernel
theorem dX6_not3_42 : decode cX6_not3 42 = .ok (.iload_n 1, 1) := by decide +kernel
theorem dX6_not3_43 : decode cX6_not3 43 = .ok (.ifCond .ne 7, 3) := by decide +kernel
theorem dX6_not3_46 : decode cX6_not3 46 = .ok (.iconst 1, 1) := by decide +kernel
theorem dX6_not3_47 : decode cX6_not3 47 = .ok (.goto 4, 3) := by decide +kernel
theorem dX6_not3_50 : decode cX6_not3 50 = .ok (.iconst 0, 1) := by decide +kernel
theorem dX6_not3_51 : decode cX6_not3 51 = .ok (.ireturn, 1) := by decide +kernel
theorem dX6_not3_52 : decode cX6_not3 52 = .ok (.aload_n 0, 1) := by decide +kernel
theorem dX6_not3_53 : decode cX6_not3 53 = .ok (.invokevirtual 275, 3) := by decide +kernel
theorem dX6_not3_56 : decode cX6_not3 56 = .ok (.istore_n 1, 1) := by decide +kernel
theorem dX6_not3_57 : decode cX6_not3 57 = .ok (.aload_n 0, 1) := by decide +kernel
theorem dX6_not3_58 : decode cX6_not3 58 = .ok (.bipush 60, 2) := by decide +kernel
theorem dX6_not3_60 : decode cX6_not3 60 = .ok (.invokevirtual 218, 3) := by decide +kernel
theorem dX6_not3_63 : decode cX6_not3 63 = .ok (.ifCond .ne 14, 3) := by decide +kernel
theorem dX6_not3_66 : decode cX6_not3 66 = .ok (.aload_n 0, 1) := by decide +kernel
theorem dX6_not3_67 : decode cX6_not3 67 = .ok (.bipush 61, 2) := by decide +kernel
theorem dX6_not3_69 : decode cX6_not3 69 = .ok (.invokevirtual 218, 3) := by decide +kernel
theorem dX6_not3_72 : decode cX6_not3 72 = .ok (.ifCond .ne 5, 3) := by decide +kernel
theorem dX6_not3_75 : decode cX6_not3 75 = .ok (.iload_n 1, 1) := by decide +kernel
theorem dX6_not3_76 : decode cX6_not3 76 = .ok (.ireturn, 1) := by decide +kernel
theorem dX6_not3_77 : decode cX6_not3 77 = .ok (.aload_n 0, 1) := by decide +kernel
theorem dX6_not3_78 : decode cX6_not3 78 = .ok (.getfield 172, 3) := by decide +kernel
theorem dX6_not3_81 : decode cX6_not3 81 = .ok (.ldc2_w 240, 3) := by decide +kernel
theorem dX6_not3_84 : decode cX6_not3 84 = .ok (.lcmp, 1) := by decide +kernel
theorem dX6_not3_85 : decode cX6_not3 85 = .ok (.ifCond .ne 7, 3) := by decide +kernel
theorem dX6_not3_88 : decode cX6_not3 88 = .ok (.iconst 1, 1) := by decide +kernel
theorem dX6_not3_89 : decode cX6_not3 89 = .ok (.goto 4, 3) := by decide +kernel
theorem dX6_not3_92 : decode cX6_not3 92 = .ok (.iconst 0, 1) := by decide +kernel
theorem dX6_not3_93 : decode cX6_not3 93 = .ok (.istore_n 2, 1) := by decide +kernel
theorem dX6_not3_94 : decode cX6_not3 94 = .ok (.aload_n 0, 1) := by decide +kernel
theorem dX6_not3_95 : decode cX6_not3 95 = .ok (.invokevirtual 193, 3) := by decide +kernel
theorem dX6_not3_98 : decode cX6_not3 98 = .ok (.aload_n 0, 1) := by decide +kernel
theorem dX6_not3_99 : decode cX6_not3 99 = .ok (.invokevirtual 275, 3) := by decide +kernel
theorem dX6_not3_102 : decode cX6_not3 102 = .ok (.istore_n 3, 1) := by decide +kernel
theorem dX6_not3_103 : decode cX6_not3 103 = .ok (.iload_n 2, 1) := by decide +kernel
theorem dX6_not3_104 : decode cX6_not3 104 = .ok (.ifCond .eq 11, 3) := by decide +kernel
theorem dX6_not3_107 : decode cX6_not3 107 = .ok (.iload_n 1, 1) := by decide +kernel
theorem dX6_not3_108 : decode cX6_not3 108 = .ok (.iload_n 3, 1) := by decide +kernel
theorem dX6_not3_109 : decode cX6_not3 109 = .ok (.if_icmp .ge 15, 3) := by decide +kernel
theorem dX6_not3_112 : decode cX6_not3 112 = .ok (.goto 8, 3) := by decide +kernel
theorem dX6_not3_115 : decode cX6_not3 115 = .ok (.iload_n 1, 1) := by decide +kernel
theorem dX6_not3_116 : decode cX6_not3 116 = .ok (.iload_n 3, 1) := by decide +kernel
theorem dX6_not3_117 : decode cX6_not3 117 = .ok (.if_icmp .ne 7, 3) := by decide +kernel
theorem dX6_not3_120 : decode cX6_not3 120 = .ok (.iconst 1, 1) := by decide +kernel
theorem dX6_not3_121 : decode cX6_not3 121 = .ok (.goto 4, 3) := by decide +kernel
theorem dX6_not3_124 : decode cX6_not3 124 = .ok (.iconst 0, 1) := by decide +kernel
theorem dX6_not3_125 : decode cX6_not3 125 = .ok (.ireturn, 1) := by decide +kernel
set_option maxRecDepth 20000 in
theorem dX6_both3_0 : decode cX6_both3 0 = .ok (.aload_n 0, 1) := by decide +kernel
theorem dX6_both3_1 : decode cX6_both3 1 = .ok (.invokevirtual 278, 3) := by decide +kernel
theorem dX6_both3_4 : decode cX6_both3 4 = .ok (.istore_n 1, 1) := by decide +kernel
theorem dX6_both3_5 : decode cX6_both3 5 = .ok (.aload_n 0, 1) := by decide +kernel
theorem dX6_both3_6 : decode cX6_both3 6 = .ok (.bipush 97, 2) := by decide +kernel
theorem dX6_both3_8 : decode cX6_both3 8 = .ok (.bipush 110, 2) := by decide +kernel
theorem dX6_both3_10 : decode cX6_both3 10 = .ok (.bipush 100, 2) := by decide +kernel
theorem dX6_both3_12 : decode cX6_both3 12 = .ok (.iconst 0, 1) := by decide +kernel
theorem dX6_both3_13 : decode cX6_both3 13 = .ok (.iconst 0, 1) := by decide +kernel
theorem dX6_both3_14 : decode cX6_both3 14 = .ok (.iconst 0, 1) := by decide +kernel
theorem dX6_both3_15 : decode cX6_both3 15 = .ok (.iconst 0, 1) := by decide +kernel
theorem dX6_both3_16 : decode cX6_both3 16 = .ok (.iconst 0, 1) := by decide +kernel
theorem dX6_both3_17 : decode cX6_both3 17 = .ok (.invokevirtual 196, 3) := by decide +kernel
theorem dX6_both3_20 : decode cX6_both3 20 = .ok (.ifCond .eq 29, 3) := by decide +kernel
theorem dX6_both3_23 : decode cX6_both3 23 = .ok (.aload_n 0, 1) := by decide +kernel
theorem dX6_both3_24 : decode cX6_both3 24 = .ok (.invokevirtual 193, 3) := by decide +kernel
theorem dX6_both3_27 : decode cX6_both3 27 = .ok (.aload_n 0, 1) := by decide +kernel
theorem dX6_both3_28 : decode cX6_both3 28 = .ok (.invokevirtual 278, 3) := by decide +kernel
theorem dX6_both3_31 : decode cX6_both3 31 = .ok (.istore_n 2, 1) := by decide +kernel
theorem dX6_both3_32 : decode cX6_both3 32 = .ok (.iload_n 1, 1) := by decide +kernel
theorem dX6_both3_33 : decode cX6_both3 33 = .ok (.ifCond .eq 11, 3) := by decide +kernel
theorem dX6_both3_36 : decode cX6_both3 36 = .ok (.iload_n 2, 1) := by decide +kernel
theorem dX6_both3_37 : decode cX6_both3 37 = .ok (.ifCond .eq 7, 3) := by decide +kernel
theorem dX6_both3_40 : decode cX6_both3 40 = .ok (.iconst 1, 1) := by decide +kernel
theorem dX6_both3_41 : decode cX6_both3 41 = .ok (.goto 4, 3) := by decide +kernel
theorem dX6_both3_44 : decode cX6_both3 44 = .ok (.iconst 0, 1) := by decide +kernel
theorem dX6_both3_45 : decode cX6_both3 45 = .ok (.istore_n 1, 1) := by decide +kernel
theorem dX6_both3_46 : decode cX6_both3 46 = .ok (.goto (-41), 3) := by decide +kernel
theorem dX6_both3_49 : decode cX6_both3 49 = .ok (.iload_n 1, 1) := by decide +kernel
theorem dX6_both3_50 : decode cX6_both3 50 = .ok (.ireturn, 1) := by decide +kernel
set_option maxRecDepth 20000 in
theorem dX6_either3_0 : decode cX6_either3 0 = .ok (.aload_n 0, 1) := by decide +kernel
theorem dX6_either3_1 : decode cX6_either3 1 = .ok (.invokevirtual 281, 3) := by decide +kernel
theorem dX6_either3_4 : decode cX6_either3 4 = .ok (.istore_n 1, 1) := by decide +kernel
theorem dX6_either3_5 : decode cX6_either3 5 = .ok (.aload_n 0, 1) := by decide +kernel
theorem dX6_either3_6 : decode cX6_either3 6 = .ok (.bipush 111, 2) := by decide +kernel
theorem dX6_either3_8 : decode cX6_either3 8 = .ok (.bipush 114, 2) := by decide +kernel
theorem dX6_either3_10 : decode cX6_either3 10 = .ok (.iconst 0, 1) := by decide +kernel
theorem dX6_either3_11 : decode cX6_either3 11 = .ok (.iconst 0, 1) := by decide +kernel
theorem dX6_either3_12 : decode cX6_either3 12 = .ok (.iconst 0, 1) := by decide +kernel
theorem dX6_either3_13 : decode cX6_either3 13 = .ok (.iconst 0, 1) := by decide +kernel
theorem dX6_either3_14 : decode cX6_either3 14 = .ok (.iconst 0, 1) := by decide +kernel
theorem dX6_either3_15 : decode cX6_either3 15 = .ok (.iconst 0, 1) := by decide +kernel
theorem dX6_either3_16 : decode cX6_either3 16 = .ok (.invokevirtual 196, 3) := by decide +kernel
theorem dX6_either3_19 : decode cX6_either3 19 = .ok (.ifCond .eq 29, 3) := by decide +kernel
theorem dX6_either3_22 : decode cX6_either3 22 = .ok (.aload_n 0, 1) := by decide +kernel
theorem dX6_either3_23 : decode cX6_either3 23 = .ok (.invokevirtual 193, 3) := by decide +kernel
theorem dX6_either3_26 : decode cX6_either3 26 = .ok (.aload_n 0, 1) := by decide +kernel
theorem dX6_either3_27 : decode cX6_either3 27 = .ok (.invokevirtual 281, 3) := by decide +kernel
theorem dX6_either3_30 : decode cX6_either3 30 = .ok (.istore_n 2, 1) := by decide +kernel
theorem dX6_either3_31 : decode cX6_either3 31 = .ok (.iload_n 1, 1) := by decide +kernel
theorem dX6_either3_32 : decode cX6_either3 32 = .ok (.ifCond .ne 7, 3) := by decide +kernel
theorem dX6_either3_35 : decode cX6_either3 35 = .ok (.iload_n 2, 1) := by decide +kernel
theorem dX6_either3_36 : decode cX6_either3 36 = .ok (.ifCond .eq 7, 3) := by decide +kernel
theorem dX6_either3_39 : decode cX6_either3 39 = .ok (.iconst 1, 1) := by decide +kernel
theorem dX6_either3_40 : decode cX6_either3 40 = .ok (.goto 4, 3) := by decide +kernel
theorem dX6_either3_43 : decode cX6_either3 43 = .ok (.iconst 0, 1) := by decide +kernel
theorem dX6_either3_44 : decode cX6_either3 44 = .ok (.istore_n 1, 1) := by decide +kernel
theorem dX6_either3_45 : decode cX6_either3 45 = .ok (.goto (-40), 3) := by decide +kernel
theorem dX6_either3_48 : decode cX6_either3 48 = .ok (.iload_n 1, 1) := by decide +kernel
theorem dX6_either3_49 : decode cX6_either3 49 = .ok (.ireturn, 1) := by decide +kernel
set_option maxRecDepth 20000 in
theorem dX6_atom2_0 : decode cX6_atom2 0 = .ok (.iconst 0, 1) := by decide +kernel
theorem dX6_atom2_1 : decode cX6_atom2 1 = .ok (.istore_n 1, 1) := by decide +kernel
theorem dX6_atom2_2 : decode cX6_atom2 2 = .ok (.aload_n 0, 1) := by decide +kernel
theorem dX6_atom2_3 : decode cX6_atom2 3 = .ok (.bipush 45, 2) := by decide +kernel
theorem dX6_atom2_5 : decode cX6_atom2 5 = .ok (.invokevirtual 218, 3) := by decide +kernel
theorem dX6_atom2_8 : decode cX6_atom2 8 = .ok (.ifCond .eq 29, 3) := by decide +kernel
theorem dX6_atom2_11 : decode cX6_atom2 11 = .ok (.aload_n 0, 1) := by decide +kernel
theorem dX6_atom2_12 : decode cX6_atom2 12 = .ok (.invokevirtual 221, 3) := by decide +kernel
theorem dX6_atom2_15 : decode cX6_atom2 15 = .ok (.ifCond .eq 146, 3) := by decide +kernel
theorem dX6_atom2_18 : decode cX6_atom2 18 = .ok (.aload_n 0, 1) := by decide +kernel
theorem dX6_atom2_19 : decode cX6_atom2 19 = .ok (.invokevirtual 269, 3) := by decide +kernel
theorem dX6_atom2_22 : decode cX6_atom2 22 = .ok (.ineg, 1) := by decide +kernel
theorem dX6_atom2_23 : decode cX6_atom2 23 = .ok (.istore_n 1, 1) := by decide +kernel
theorem dX6_atom2_24 : decode cX6_atom2 24 = .ok (.aload_n 0, 1) := by decide +kernel
theorem dX6_atom2_25 : decode cX6_atom2 25 = .ok (.dup, 1) := by decide +kernel
theorem dX6_atom2_26 : decode cX6_atom2 26 = .ok (.getfield 187, 3) := by decide +kernel
theorem dX6_atom2_29 : decode cX6_atom2 29 = .ok (.iconst 1, 1) := by decide +kernel
theorem dX6_atom2_30 : decode cX6_atom2 30 = .ok (.isub, 1) := by decide +kernel
theorem dX6_atom2_31 : decode cX6_atom2 31 = .ok (.putfield 187, 3) := by decide +kernel
theorem dX6_atom2_34 : decode cX6_atom2 34 = .ok (.goto 127, 3) := by decide +kernel
theorem dX6_atom2_37 : decode cX6_atom2 37 = .ok (.aload_n 0, 1) := by decide +kernel
theorem dX6_atom2_38 : decode cX6_atom2 38 = .ok (.bipush 40, 2) := by decide +kernel
theorem dX6_atom2_40 : decode cX6_atom2 40 = .ok (.invokevirtual 218, 3) := by decide +kernel
theorem dX6_atom2_43 : decode cX6_atom2 43 = .ok (.ifCond .eq 52, 3) := by decide +kernel
theorem dX6_atom2_46 : decode cX6_atom2 46 = .ok (.aload_n 0, 1) := by decide +kernel
theorem dX6_atom2_47 : decode cX6_atom2 47 = .ok (.invokevirtual 221, 3) := by decide +kernel
theorem dX6_atom2_50 : decode cX6_atom2 50 = .ok (.ifCond .eq 111, 3) := by decide +kernel
theorem dX6_atom2_53 : decode cX6_atom2 53 = .ok (.aload_n 0, 1) := by decide +kernel
theorem dX6_atom2_54 : decode cX6_atom2 54 = .ok (.invokevirtual 284, 3) := by decide +kernel
theorem dX6_atom2_57 : decode cX6_atom2 57 = .ok (.istore_n 1, 1) := by decide +kernel
theorem dX6_atom2_58 : decode cX6_atom2 58 = .ok (.aload_n 0, 1) := by decide +kernel
theorem dX6_atom2_59 : decode cX6_atom2 59 = .ok (.bipush 41, 2) := by decide +kernel
theorem dX6_atom2_61 : decode cX6_atom2 61 = .ok (.invokevirtual 218, 3) := by decide +kernel
theorem dX6_atom2_64 : decode cX6_atom2 64 = .ok (.ifCond .ne 7, 3) := by decide +kernel
theorem dX6_atom2_67 : decode cX6_atom2 67 = .ok (.aload_n 0, 1) := by decide +kernel
theorem dX6_atom2_68 : decode cX6_atom2 68 = .ok (.invokevirtual 190, 3) := by decide +kernel
theorem dX6_atom2_71 : decode cX6_atom2 71 = .ok (.aload_n 0, 1) := by decide +kernel
theorem dX6_atom2_72 : decode cX6_atom2 72 = .ok (.dup, 1) := by decide +kernel
theorem dX6_atom2_73 : decode cX6_atom2 73 = .ok (.getfield 187, 3) := by decide +kernel
theorem dX6_atom2_76 : decode cX6_atom2 76 = .ok (.iconst 1, 1) := by decide +kernel
theorem dX6_atom2_77 : decode cX6_atom2 77 = .ok (.isub, 1) := by decide +kernel
theorem dX6_atom2_78 : decode cX6_atom2 78 = .ok (.putfield 187, 3) := by decide +kernel
theorem dX6_atom2_81 : decode cX6_atom2 81 = .ok (.aload_n 0, 1) := by decide +kernel
theorem dX6_atom2_82 : decode cX6_atom2 82 = .ok (.getfield 177, 3) := by decide +kernel
theorem dX6_atom2_85 : decode cX6_atom2 85 = .ok (.ifCond .ne 76, 3) := by decide +kernel
theorem dX6_atom2_88 : decode cX6_atom2 88 = .ok (.aload_n 0, 1) := by decide +kernel
theorem dX6_atom2_89 : decode cX6_atom2 89 = .ok (.invokevirtual 193, 3) := by decide +kernel
theorem dX6_atom2_92 : decode cX6_atom2 92 = .ok (.goto 69, 3) := by decide +kernel
theorem dX6_atom2_95 : decode cX6_atom2 95 = .ok (.aload_n 0, 1) := by decide +kernel
theorem dX6_atom2_96 : decode cX6_atom2 96 = .ok (.getfield 177, 3) := by decide +kernel
theorem dX6_atom2_99 : decode cX6_atom2 99 = .ok (.ifCond .ne 24, 3) := by decide +kernel
theorem dX6_atom2_102 : decode cX6_atom2 102 = .ok (.aload_n 0, 1) := by decide +kernel
theorem dX6_atom2_103 : decode cX6_atom2 103 = .ok (.getfield 161, 3) := by decide +kernel
theorem dX6_atom2_106 : decode cX6_atom2 106 = .ok (.iconst 2, 1) := by decide +kernel
theorem dX6_atom2_107 : decode cX6_atom2 107 = .ok (.if_icmp .ne 16, 3) := by decide +kernel
theorem dX6_atom2_110 : decode cX6_atom2 110 = .ok (.aload_n 0, 1) := by decide +kernel
theorem dX6_atom2_111 : decode cX6_atom2 111 = .ok (.getfield 172, 3) := by decide +kernel
theorem dX6_atom2_114 : decode cX6_atom2 114 = .ok (.l2i, 1) := by decide +kernel
theorem dX6_atom2_115 : decode cX6_atom2 115 = .ok (.istore_n 1, 1) := by decide +kernel
theorem dX6_atom2_116 : decode cX6_atom2 116 = .ok (.aload_n 0, 1) := by decide +kernel
theorem dX6_atom2_117 : decode cX6_atom2 117 = .ok (.invokevirtual 193, 3) := by decide +kernel
theorem dX6_atom2_120 : decode cX6_atom2 120 = .ok (.goto 41, 3) := by decide +kernel
theorem dX6_atom2_123 : decode cX6_atom2 123 = .ok (.aload_n 0, 1) := by decide +kernel
theorem dX6_atom2_124 : decode cX6_atom2 124 = .ok (.getfield 177, 3) := by decide +kernel
theorem dX6_atom2_127 : decode cX6_atom2 127 = .ok (.ifCond .ne 30, 3) := by decide +kernel
theorem dX6_atom2_130 : decode cX6_atom2 130 = .ok (.aload_n 0, 1) := by decide +kernel
theorem dX6_atom2_131 : decode cX6_atom2 131 = .ok (.getfield 161, 3) := by decide +kernel
theorem dX6_atom2_134 : decode cX6_atom2 134 = .ok (.iconst 1, 1) := by decide +kernel
theorem dX6_atom2_135 : decode cX6_atom2 135 = .ok (.if_icmp .ne 22, 3) := by decide +kernel
theorem dX6_atom2_138 : decode cX6_atom2 138 = .ok (.aload_n 0, 1) := by decide +kernel
theorem dX6_atom2_139 : decode cX6_atom2 139 = .ok (.invokevirtual 225, 3) := by decide +kernel
theorem dX6_atom2_142 : decode cX6_atom2 142 = .ok (.istore_n 1, 1) := by decide +kernel
theorem dX6_atom2_143 : decode cX6_atom2 143 = .ok (.aload_n 0, 1) := by decide +kernel
theorem dX6_atom2_144 : decode cX6_atom2 144 = .ok (.getfield 177, 3) := by decide +kernel
theorem dX6_atom2_147 : decode cX6_atom2 147 = .ok (.ifCond .ne 14, 3) := by decide +kernel
theorem dX6_atom2_150 : decode cX6_atom2 150 = .ok (.aload_n 0, 1) := by decide +kernel
theorem dX6_atom2_151 : decode cX6_atom2 151 = .ok (.invokevirtual 193, 3) := by decide +kernel
theorem dX6_atom2_154 : decode cX6_atom2 154 = .ok (.goto 7, 3) := by decide +kernel
theorem dX6_atom2_157 : decode cX6_atom2 157 = .ok (.aload_n 0, 1) := by decide +kernel
theorem dX6_atom2_158 : decode cX6_atom2 158 = .ok (.invokevirtual 190, 3) := by decide +kernel
theorem dX6_atom2_161 : decode cX6_atom2 161 = .ok (.iload_n 1, 1) := by decide +kernel
theorem dX6_atom2_162 : decode cX6_atom2 162 = .ok (.ireturn, 1) := by decide +kernel
set_option maxRecDepth 20000 in
theorem dX6_term2_0 : decode cX6_term2 0 = .ok (.aload_n 0, 1) := by decide +kernel
theorem dX6_term2_1 : decode cX6_term2 1 = .ok (.invokevirtual 287, 3) := by decide +kernel
theorem dX6_term2_4 : decode cX6_term2 4 = .ok (.istore_n 1, 1) := by decide +kernel
theorem dX6_term2_5 : decode cX6_term2 5 = .ok (.aload_n 0, 1) := by decide +kernel
theorem dX6_term2_6 : decode cX6_term2 6 = .ok (.bipush 42, 2) := by decide +kernel
theorem dX6_term2_8 : decode cX6_term2 8 = .ok (.invokevirtual 218, 3) := by decide +kernel
theorem dX6_term2_11 : decode cX6_term2 11 = .ok (.ifCond .eq 17, 3) := by decide +kernel
theorem dX6_term2_14 : decode cX6_term2 14 = .ok (.aload_n 0, 1) := by decide +kernel
theorem dX6_term2_15 : decode cX6_term2 15 = .ok (.invokevirtual 193, 3) := by decide +kernel
theorem dX6_term2_18 : decode cX6_term2 18 = .ok (.iload_n 1, 1) := by decide +kernel
theorem dX6_term2_19 : decode cX6_term2 19 = .ok (.aload_n 0, 1) := by decide +kernel
theorem dX6_term2_20 : decode cX6_term2 20 = .ok (.invokevirtual 287, 3) := by decide +kernel
theorem dX6_term2_23 : decode cX6_term2 23 = .ok (.imul, 1) := by decide +kernel
theorem dX6_term2_24 : decode cX6_term2 24 = .ok (.istore_n 1, 1) := by decide +kernel
theorem dX6_term2_25 : decode cX6_term2 25 = .ok (.goto (-20), 3) := by decide +kernel
theorem dX6_term2_28 : decode cX6_term2 28 = .ok (.iload_n 1, 1) := by decide +kernel
theorem dX6_term2_29 : decode cX6_term2 29 = .ok (.ireturn, 1) := by decide +kernel
set_option maxRecDepth 20000 in
theorem dX6_added2_0 : decode cX6_added2 0 = .ok (.aload_n 0, 1) := by decide +kernel
theorem dX6_added2_1 : decode cX6_added2 1 = .ok (.invokevirtual 290, 3) := by decide +kernel
theorem dX6_added2_4 : decode cX6_added2 4 = .ok (.istore_n 1, 1) := by decide +kernel
theorem dX6_added2_5 : decode cX6_added2 5 = .ok (.aload_n 0, 1) := by decide +kernel
theorem dX6_added2_6 : decode cX6_added2 6 = .ok (.bipush 43, 2) := by decide +kernel
theorem dX6_added2_8 : decode cX6_added2 8 = .ok (.invokevirtual 218, 3) := by decide +kernel
theorem dX6_added2_11 : decode cX6_added2 11 = .ok (.ifCond .ne 12, 3) := by decide +kernel
theorem dX6_added2_14 : decode cX6_added2 14 = .ok (.aload_n 0, 1) := by decide +kernel
theorem dX6_added2_15 : decode cX6_added2 15 = .ok (.bipush 45, 2) := by decide +kernel
theorem dX6_added2_17 : decode cX6_added2 17 = .ok (.invokevirtual 218, 3) := by decide +kernel
theorem dX6_added2_20 : decode cX6_added2 20 = .ok (.ifCond .eq 46, 3) := by decide +kernel
theorem dX6_added2_23 : decode cX6_added2 23 = .ok (.aload_n 0, 1) := by decide +kernel
theorem dX6_added2_24 : decode cX6_added2 24 = .ok (.getfield 172, 3) := by decide +kernel
theorem dX6_added2_27 : decode cX6_added2 27 = .ok (.ldc2_w 235, 3) := by decide +kernel
theorem dX6_added2_30 : decode cX6_added2 30 = .ok (.lcmp, 1) := by decide +kernel
theorem dX6_added2_31 : decode cX6_added2 31 = .ok (.ifCond .ne 7, 3) := by decide +kernel
theorem dX6_added2_34 : decode cX6_added2 34 = .ok (.iconst 1, 1) := by decide +kernel
theorem dX6_added2_35 : decode cX6_added2 35 = .ok (.goto 4, 3) := by decide +kernel
theorem dX6_added2_38 : decode cX6_added2 38 = .ok (.iconst 0, 1) := by decide +kernel
theorem dX6_added2_39 : decode cX6_added2 39 = .ok (.istore_n 2, 1) := by decide +kernel
theorem dX6_added2_40 : decode cX6_added2 40 = .ok (.aload_n 0, 1) := by decide +kernel
theorem dX6_added2_41 : decode cX6_added2 41 = .ok (.invokevirtual 193, 3) := by decide +kernel
theorem dX6_added2_44 : decode cX6_added2 44 = .ok (.aload_n 0, 1) := by decide +kernel
theorem dX6_added2_45 : decode cX6_added2 45 = .ok (.invokevirtual 290, 3) := by decide +kernel
theorem dX6_added2_48 : decode cX6_added2 48 = .ok (.istore_n 3, 1) := by decide +kernel
theorem dX6_added2_49 : decode cX6_added2 49 = .ok (.iload_n 2, 1) := by decide +kernel
theorem dX6_added2_50 : decode cX6_added2 50 = .ok (.ifCond .eq 9, 3) := by decide +kernel
theorem dX6_added2_53 : decode cX6_added2 53 = .ok (.iload_n 1, 1) := by decide +kernel
theorem dX6_added2_54 : decode cX6_added2 54 = .ok (.iload_n 3, 1) := by decide +kernel
theorem dX6_added2_55 : decode cX6_added2 55 = .ok (.iadd, 1) := by decide +kernel
theorem dX6_added2_56 : decode cX6_added2 56 = .ok (.goto 6, 3) := by decide +kernel
theorem dX6_added2_59 : decode cX6_added2 59 = .ok (.iload_n 1, 1) := by decide +kernel
theorem dX6_added2_60 : decode cX6_added2 60 = .ok (.iload_n 3, 1) := by decide +kernel
theorem dX6_added2_61 : decode cX6_added2 61 = .ok (.isub, 1) := by decide +kernel
theorem dX6_added2_62 : decode cX6_added2 62 = .ok (.istore_n 1, 1) := by decide +kernel
theorem dX6_added2_63 : decode cX6_added2 63 = .ok (.goto (-58), 3) := by decide +kernel
theorem dX6_added2_66 : decode cX6_added2 66 = .ok (.iload_n 1, 1) := by decide +kernel
theorem dX6_added2_67 : decode cX6_added2 67 = .ok (.ireturn, 1) := by decide +kernel
set_option maxRecDepth 20000 in
theorem dX6_not2_0 : decode cX6_not2 0 = .ok (.aload_n 0, 1) := by decide +kernel
theorem dX6_not2_1 : decode cX6_not2 1 = .ok (.bipush 110, 2) := by decide +kernel
theorem dX6_not2_3 : decode cX6_not2 3 = .ok (.bipush 111, 2) := by decide +kernel
theorem dX6_not2_5 : decode cX6_not2 5 = .ok (.bipush 116, 2) := by decide +kernel
theorem dX6_not2_7 : decode cX6_not2 7 = .ok (.iconst 0, 1) := by decide +kernel
theorem dX6_not2_8 : decode cX6_not2 8 = .ok (.iconst 0, 1) := by decide +kernel
theorem dX6_not2_9 : decode cX6_not2 9 = .ok (.iconst 0, 1) := by decide +kernel
theorem dX6_not2_10 : decode cX6_not2 10 = .ok (.iconst 0, 1) := by decide +kernel
theorem dX6_not2_11 : decode cX6_not2 11 = .ok (.iconst 0, 1) := by decide +kernel
theorem dX6_not2_12 : decode cX6_not2 12 = .ok (.invokevirtual 196, 3) := by decide +kernel
theorem dX6_not2_15 : decode cX6_not2 15 = .ok (.ifCond .eq 37, 3) := by decide +kernel
theorem dX6_not2_18 : decode cX6_not2 18 = .ok (.aload_n 0, 1) := by decide +kernel
theorem dX6_not2_19 : decode cX6_not2 19 = .ok (.invokevirtual 221, 3) := by decide +kernel
theorem dX6_not2_22 : decode cX6_not2 22 = .ok (.ifCond .ne 5, 3) := by decide +kernel
theorem dX6_not2_25 : decode cX6_not2 25 = .ok (.iconst 0, 1) := by decide +kernel
theorem dX6_not2_26 : decode cX6_not2 26 = .ok (.ireturn, 1) := by decide +kernel
theorem dX6_not2_27 : decode cX6_not2 27 = .ok (.aload_n 0, 1) := by decide +kernel
theorem dX6_not2_28 : decode cX6_not2 28 = .ok (.invokevirtual 278, 3) := by decide +kernel
theorem dX6_not2_31 : decode cX6_not2 31 = .ok (.istore_n 1, 1) := by decide +kernel
theorem dX6_not2_32 : decode cX6_not2 32 = .ok (.aload_n 0, 1) := by decide +kernel
theorem dX6_not2_33 : decode cX6_not2 33 = .ok (.dup, 1) := by decide +kernel
theorem dX6_not2_34 : decode cX6_not2 34 = .ok (.getfield 187, 3) := by decide +kernel
theorem dX6_not2_37 : decode cX6_not2 37 = .ok (.iconst 1, 1) := by decide +kernel
theorem dX6_not2_38 : decode cX6_not2 38 = .ok (.isub, 1) := by decide +kernel
theorem dX6_not2_39 : decode cX6_not2 39 = .ok (.putfield 187, 3) := by decide +kernel
theorem dX6_not2_42 : decode cX6_not2 42 = .ok (.iload_n 1, 1) := by decide +kernel
theorem dX6_not2_43 : decode cX6_not2 43 = .ok (.ifCond .ne 7, 3) := by decide +kernel
theorem dX6_not2_46 : decode cX6_not2 46 = .ok (.iconst 1, 1) := by decide +kernel
theorem dX6_not2_47 : decode cX6_not2 47 = .ok (.goto 4, 3) := by decide +kernel
theorem dX6_not2_50 : decode cX6_not2 50 = .ok (.iconst 0, 1) := by decide +kernel
theorem dX6_not2_51 : decode cX6_not2 51 = .ok (.ireturn, 1) := by decide +kernel
theorem dX6_not2_52 : decode cX6_not2 52 = .ok (.aload_n 0, 1) := by decide +kernel
theorem dX6_not2_53 : decode cX6_not2 53 = .ok (.invokevirtual 293, 3) := by decide +kernel
theorem dX6_not2_56 : decode cX6_not2 56 = .ok (.istore_n 1, 1) := by decide +kernel
theorem dX6_not2_57 : decode cX6_not2 57 = .ok (.aload_n 0, 1) := by decide +kernel
theorem dX6_not2_58 : decode cX6_not2 58 = .ok (.bipush 60, 2) := by decide +kernel
theorem dX6_not2_60 : decode cX6_not2 60 = .ok (.invokevirtual 218, 3) := by decide +kernel
theorem dX6_not2_63 : decode cX6_not2 63 = .ok (.ifCond .ne 14, 3) := by decide +kernel
theorem dX6_not2_66 : decode cX6_not2 66 = .ok (.aload_n 0, 1) := by decide +kernel
theorem dX6_not2_67 : decode cX6_not2 67 = .ok (.bipush 61, 2) := by decide +kernel
theorem dX6_not2_69 : decode cX6_not2 69 = .ok (.invokevirtual 218, 3) := by decide +kernel
theorem dX6_not2_72 : decode cX6_not2 72 = .ok (.ifCond .ne 5, 3) := by decide +kernel
theorem dX6_not2_75 : decode cX6_not2 75 = .ok (.iload_n 1, 1) := by decide +kernel
theorem dX6_not2_76 : decode cX6_not2 76 = .ok (.ireturn, 1) := by decide +kernel
theorem dX6_not2_77 : decode cX6_not2 77 = .ok (.aload_n 0, 1) := by decide +kernel
theorem dX6_not2_78 : decode cX6_not2 78 = .ok (.getfield 172, 3) := by decide +kernel
theorem dX6_not2_81 : decode cX6_not2 81 = .ok (.ldc2_w 240, 3) := by decide +kernel
theorem dX6_not2_84 : decode cX6_not2 84 = .ok (.lcmp, 1) := by decide +kernel
theorem dX6_not2_85 : decode cX6_not2 85 = .ok (.ifCond .ne 7, 3) := by decide +kernel
theorem dX6_not2_88 : decode cX6_not2 88 = .ok (.iconst 1, 1) := by decide +kernel
theorem dX6_not2_89 : decode cX6_not2 89 = .ok (.goto 4, 3) := by decide +kernel
theorem dX6_not2_92 : decode cX6_not2 92 = .ok (.iconst 0, 1) := by decide +kernel
theorem dX6_not2_93 : decode cX6_not2 93 = .ok (.istore_n 2, 1) := by decide +kernel
theorem dX6_not2_94 : decode cX6_not2 94 = .ok (.aload_n 0, 1) := by decide +kernel
theorem dX6_not2_95 : decode cX6_not2 95 = .ok (.invokevirtual 193, 3) := by decide +kernel
theorem dX6_not2_98 : decode cX6_not2 98 = .ok (.aload_n 0, 1) := by decide +kernel
theorem dX6_not2_99 : decode cX6_not2 99 = .ok (.invokevirtual 293, 3) := by decide +kernel
theorem dX6_not2_102 : decode cX6_not2 102 = .ok (.istore_n 3, 1) := by decide +kernel
theorem dX6_not2_103 : decode cX6_not2 103 = .ok (.iload_n 2, 1) := by decide +kernel
theorem dX6_not2_104 : decode cX6_not2 104 = .ok (.ifCond .eq 11, 3) := by decide +kernel
theorem dX6_not2_107 : decode cX6_not2 107 = .ok (.iload_n 1, 1) := by decide +kernel
theorem dX6_not2_108 : decode cX6_not2 108 = .ok (.iload_n 3, 1) := by decide +kernel
theorem dX6_not2_109 : decode cX6_not2 109 = .ok (.if_icmp .ge 15, 3) := by decide +kernel
theorem dX6_not2_112 : decode cX6_not2 112 = .ok (.goto 8, 3) := by decide +kernel
theorem dX6_not2_115 : decode cX6_not2 115 = .ok (.iload_n 1, 1) := by decide +kernel
theorem dX6_not2_116 : decode cX6_not2 116 = .ok (.iload_n 3, 1) := by decide +kernel
theorem dX6_not2_117 : decode cX6_not2 117 = .ok (.if_icmp .ne 7, 3) := by decide +kernel
theorem dX6_not2_120 : decode cX6_not2 120 = .ok (.iconst 1, 1) := by decide +kernel
theorem dX6_not2_121 : decode cX6_not2 121 = .ok (.goto 4, 3) := by decide +kernel
theorem dX6_not2_124 : decode cX6_not2 124 = .ok (.iconst 0, 1) := by decide +kernel
theorem dX6_not2_125 : decode cX6_not2 125 = .ok (.ireturn, 1) := by decide +kernel
set_option maxRecDepth 20000 in
theorem dX6_both2_0 : decode cX6_both2 0 = .ok (.aload_n 0, 1) := by decide +kernel
theorem dX6_both2_1 : decode cX6_both2 1 = .ok (.invokevirtual 296, 3) := by decide +kernel
theorem dX6_both2_4 : decode cX6_both2 4 = .ok (.istore_n 1, 1) := by decide +kernel
theorem dX6_both2_5 : decode cX6_both2 5 = .ok (.aload_n 0, 1) := by decide +kernel
theorem dX6_both2_6 : decode cX6_both2 6 = .ok (.bipush 97, 2) := by decide +kernel
theorem dX6_both2_8 : decode cX6_both2 8 = .ok (.bipush 110, 2) := by decide +kernel
theorem dX6_both2_10 : decode cX6_both2 10 = .ok (.bipush 100, 2) := by decide +kernel
theorem dX6_both2_12 : decode cX6_both2 12 = .ok (.iconst 0, 1) := by decide +kernel
theorem dX6_both2_13 : decode cX6_both2 13 = .ok (.iconst 0, 1) := by decide +kernel
theorem dX6_both2_14 : decode cX6_both2 14 = .ok (.iconst 0, 1) := by decide +kernel
theorem dX6_both2_15 : decode cX6_both2 15 = .ok (.iconst 0, 1) := by decide +kernel
theorem dX6_both2_16 : decode cX6_both2 16 = .ok (.iconst 0, 1) := by decide +kernel
theorem dX6_both2_17 : decode cX6_both2 17 = .ok (.invokevirtual 196, 3) := by decide +kernel
theorem dX6_both2_20 : decode cX6_both2 20 = .ok (.ifCond .eq 29, 3) := by decide +kernel
theorem dX6_both2_23 : decode cX6_both2 23 = .ok (.aload_n 0, 1) := by decide +kernel
theorem dX6_both2_24 : decode cX6_both2 24 = .ok (.invokevirtual 193, 3) := by decide +kernel
theorem dX6_both2_27 : decode cX6_both2 27 = .ok (.aload_n 0, 1) := by decide +kernel
theorem dX6_both2_28 : decode cX6_both2 28 = .ok (.invokevirtual 296, 3) := by decide +kernel
theorem dX6_both2_31 : decode cX6_both2 31 = .ok (.istore_n 2, 1) := by decide +kernel
theorem dX6_both2_32 : decode cX6_both2 32 = .ok (.iload_n 1, 1) := by decide +kernel
theorem dX6_both2_33 : decode cX6_both2 33 = .ok (.ifCond .eq 11, 3) := by decide +kernel
theorem dX6_both2_36 : decode cX6_both2 36 = .ok (.iload_n 2, 1) := by decide +kernel
theorem dX6_both2_37 : decode cX6_both2 37 = .ok (.ifCond .eq 7, 3) := by decide +kernel
theorem dX6_both2_40 : decode cX6_both2 40 = .ok (.iconst 1, 1) := by decide +kernel
theorem dX6_both2_41 : decode cX6_both2 41 = .ok (.goto 4, 3) := by decide +kernel
theorem dX6_both2_44 : decode cX6_both2 44 = .ok (.iconst 0, 1) := by decide +kernel
theorem dX6_both2_45 : decode cX6_both2 45 = .ok (.istore_n 1, 1) := by decide +kernel
theorem dX6_both2_46 : decode cX6_both2 46 = .ok (.goto (-41), 3) := by decide +kernel
theorem dX6_both2_49 : decode cX6_both2 49 = .ok (.iload_n 1, 1) := by decide +kernel
theorem dX6_both2_50 : decode cX6_both2 50 = .ok (.ireturn, 1) := by decide +kernel
set_option maxRecDepth 20000 in
theorem dX6_either2_0 : decode cX6_either2 0 = .ok (.aload_n 0, 1) := by decide +kernel
theorem dX6_either2_1 : decode cX6_either2 1 = .ok (.invokevirtual 299, 3) := by decide +kernel
theorem dX6_either2_4 : decode cX6_either2 4 = .ok (.istore_n 1, 1) := by decide +kernel
theorem dX6_either2_5 : decode cX6_either2 5 = .ok (.aload_n 0, 1) := by decide +kernel
theorem dX6_either2_6 : decode cX6_either2 6 = .ok (.bipush 111, 2) := by decide +kernel
theorem dX6_either2_8 : decode cX6_either2 8 = .ok (.bipush 114, 2) := by decide +kernel
theorem dX6_either2_10 : decode cX6_either2 10 = .ok (.iconst 0, 1) := by decide +kernel
theorem dX6_either2_11 : decode cX6_either2 11 = .ok (.iconst 0, 1) := by decide +kernel
theorem dX6_either2_12 : decode cX6_either2 12 = .ok (.iconst 0, 1) := by decide +kernel
theorem dX6_either2_13 : decode cX6_either2 13 = .ok (.iconst 0, 1) := by decide +kernel
theorem dX6_either2_14 : decode cX6_either2 14 = .ok (.iconst 0, 1) := by decide +kernel
theorem dX6_either2_15 : decode cX6_either2 15 = .ok (.iconst 0, 1) := by decide +kernel
theorem dX6_either2_16 : decode cX6_either2 16 = .ok (.invokevirtual 196, 3) := by decide +kernel
theorem dX6_either2_19 : decode cX6_either2 19 = .ok (.ifCond .eq 29, 3) := by decide +kernel
theorem dX6_either2_22 : decode cX6_either2 22 = .ok (.aload_n 0, 1) := by decide +kernel
theorem dX6_either2_23 : decode cX6_either2 23 = .ok (.invokevirtual 193, 3) := by decide +kernel
theorem dX6_either2_26 : decode cX6_either2 26 = .ok (.aload_n 0, 1) := by decide +kernel
theorem dX6_either2_27 : decode cX6_either2 27 = .ok (.invokevirtual 299, 3) := by decide +kernel
theorem dX6_either2_30 : decode cX6_either2 30 = .ok (.istore_n 2, 1) := by decide +kernel
theorem dX6_either2_31 : decode cX6_either2 31 = .ok (.iload_n 1, 1) := by decide +kernel
theorem dX6_either2_32 : decode cX6_either2 32 = .ok (.ifCond .ne 7, 3) := by decide +kernel
theorem dX6_either2_35 : decode cX6_either2 35 = .ok (.iload_n 2, 1) := by decide +kernel
theorem dX6_either2_36 : decode cX6_either2 36 = .ok (.ifCond .eq 7, 3) := by decide +kernel
theorem dX6_either2_39 : decode cX6_either2 39 = .ok (.iconst 1, 1) := by decide +kernel
theorem dX6_either2_40 : decode cX6_either2 40 = .ok (.goto 4, 3) := by decide +kernel
theorem dX6_either2_43 : decode cX6_either2 43 = .ok (.iconst 0, 1) := by decide +kernel
theorem dX6_either2_44 : decode cX6_either2 44 = .ok (.istore_n 1, 1) := by decide +kernel
theorem dX6_either2_45 : decode cX6_either2 45 = .ok (.goto (-40), 3) := by decide +kernel
theorem dX6_either2_48 : decode cX6_either2 48 = .ok (.iload_n 1, 1) := by decide +kernel
theorem dX6_either2_49 : decode cX6_either2 49 = .ok (.ireturn, 1) := by decide +kernel
set_option maxRecDepth 20000 in
theorem dX6_atom1_0 : decode cX6_atom1 0 = .ok (.iconst 0, 1) := by decide +kernel
theorem dX6_atom1_1 : decode cX6_atom1 1 = .ok (.istore_n 1, 1) := by decide +kernel
theorem dX6_atom1_2 : decode cX6_atom1 2 = .ok (.aload_n 0, 1) := by decide +kernel
theorem dX6_atom1_3 : decode cX6_atom1 3 = .ok (.bipush 45, 2) := by decide +kernel
theorem dX6_atom1_5 : decode cX6_atom1 5 = .ok (.invokevirtual 218, 3) := by decide +kernel
theorem dX6_atom1_8 : decode cX6_atom1 8 = .ok (.ifCond .eq 29, 3) := by decide +kernel
theorem dX6_atom1_11 : decode cX6_atom1 11 = .ok (.aload_n 0, 1) := by decide +kernel
theorem dX6_atom1_12 : decode cX6_atom1 12 = .ok (.invokevirtual 221, 3) := by decide +kernel
theorem dX6_atom1_15 : decode cX6_atom1 15 = .ok (.ifCond .eq 146, 3) := by decide +kernel
theorem dX6_atom1_18 : decode cX6_atom1 18 = .ok (.aload_n 0, 1) := by decide +kernel
theorem dX6_atom1_19 : decode cX6_atom1 19 = .ok (.invokevirtual 287, 3) := by decide +kernel
theorem dX6_atom1_22 : decode cX6_atom1 22 = .ok (.ineg, 1) := by decide +kernel
theorem dX6_atom1_23 : decode cX6_atom1 23 = .ok (.istore_n 1, 1) := by decide +kernel
theorem dX6_atom1_24 : decode cX6_atom1 24 = .ok (.aload_n 0, 1) := by decide +kernel
theorem dX6_atom1_25 : decode cX6_atom1 25 = .ok (.dup, 1) := by decide +kernel
theorem dX6_atom1_26 : decode cX6_atom1 26 = .ok (.getfield 187, 3) := by decide +kernel
theorem dX6_atom1_29 : decode cX6_atom1 29 = .ok (.iconst 1, 1) := by decide +kernel
theorem dX6_atom1_30 : decode cX6_atom1 30 = .ok (.isub, 1) := by decide +kernel
theorem dX6_atom1_31 : decode cX6_atom1 31 = .ok (.putfield 187, 3) := by decide +kernel
theorem dX6_atom1_34 : decode cX6_atom1 34 = .ok (.goto 127, 3) := by decide +kernel
theorem dX6_atom1_37 : decode cX6_atom1 37 = .ok (.aload_n 0, 1) := by decide +kernel
theorem dX6_atom1_38 : decode cX6_atom1 38 = .ok (.bipush 40, 2) := by decide +kernel
theorem dX6_atom1_40 : decode cX6_atom1 40 = .ok (.invokevirtual 218, 3) := by decide +kernel
theorem dX6_atom1_43 : decode cX6_atom1 43 = .ok (.ifCond .eq 52, 3) := by decide +kernel
theorem dX6_atom1_46 : decode cX6_atom1 46 = .ok (.aload_n 0, 1) := by decide +kernel
theorem dX6_atom1_47 : decode cX6_atom1 47 = .ok (.invokevirtual 221, 3) := by decide +kernel
theorem dX6_atom1_50 : decode cX6_atom1 50 = .ok (.ifCond .eq 111, 3) := by decide +kernel
theorem dX6_atom1_53 : decode cX6_atom1 53 = .ok (.aload_n 0, 1) := by decide +kernel
theorem dX6_atom1_54 : decode cX6_atom1 54 = .ok (.invokevirtual 302, 3) := by decide +kernel
theorem dX6_atom1_57 : decode cX6_atom1 57 = .ok (.istore_n 1, 1) := by decide +kernel
theorem dX6_atom1_58 : decode cX6_atom1 58 = .ok (.aload_n 0, 1) := by decide +kernel
theorem dX6_atom1_59 : decode cX6_atom1 59 = .ok (.bipush 41, 2) := by decide +kernel
theorem dX6_atom1_61 : decode cX6_atom1 61 = .ok (.invokevirtual 218, 3) := by decide +kernel
theorem dX6_atom1_64 : decode cX6_atom1 64 = .ok (.ifCond .ne 7, 3) := by decide +kernel
theorem dX6_atom1_67 : decode cX6_atom1 67 = .ok (.aload_n 0, 1) := by decide +kernel
theorem dX6_atom1_68 : decode cX6_atom1 68 = .ok (.invokevirtual 190, 3) := by decide +kernel
theorem dX6_atom1_71 : decode cX6_atom1 71 = .ok (.aload_n 0, 1) := by decide +kernel
theorem dX6_atom1_72 : decode cX6_atom1 72 = .ok (.dup, 1) := by decide +kernel
theorem dX6_atom1_73 : decode cX6_atom1 73 = .ok (.getfield 187, 3) := by decide +kernel
theorem dX6_atom1_76 : decode cX6_atom1 76 = .ok (.iconst 1, 1) := by decide +kernel
theorem dX6_atom1_77 : decode cX6_atom1 77 = .ok (.isub, 1) := by decide +kernel
theorem dX6_atom1_78 : decode cX6_atom1 78 = .ok (.putfield 187, 3) := by decide +kernel
theorem dX6_atom1_81 : decode cX6_atom1 81 = .ok (.aload_n 0, 1) := by decide +kernel
theorem dX6_atom1_82 : decode cX6_atom1 82 = .ok (.getfield 177, 3) := by decide +kernel
theorem dX6_atom1_85 : decode cX6_atom1 85 = .ok (.ifCond .ne 76, 3) := by decide +kernel
theorem dX6_atom1_88 : decode cX6_atom1 88 = .ok (.aload_n 0, 1) := by decide +kernel
theorem dX6_atom1_89 : decode cX6_atom1 89 = .ok (.invokevirtual 193, 3) := by decide +kernel
theorem dX6_atom1_92 : decode cX6_atom1 92 = .ok (.goto 69, 3) := by decide +kernel
theorem dX6_atom1_95 : decode cX6_atom1 95 = .ok (.aload_n 0, 1) := by decide +kernel
theorem dX6_atom1_96 : decode cX6_atom1 96 = .ok (.getfield 177, 3) := by decide +kernel
theorem dX6_atom1_99 : decode cX6_atom1 99 = .ok (.ifCond .ne 24, 3) := by decide +kernel
theorem dX6_atom1_102 : decode cX6_atom1 102 = .ok (.aload_n 0, 1) := by decide +kernel
theorem dX6_atom1_103 : decode cX6_atom1 103 = .ok (.getfield 161, 3) := by decide +kernel
theorem dX6_atom1_106 : decode cX6_atom1 106 = .ok (.iconst 2, 1) := by decide +kernel
theorem dX6_atom1_107 : decode cX6_atom1 107 = .ok (.if_icmp .ne 16, 3) := by decide +kernel
theorem dX6_atom1_110 : decode cX6_atom1 110 = .ok (.aload_n 0, 1) := by decide +kernel
theorem dX6_atom1_111 : decode cX6_atom1 111 = .ok (.getfield 172, 3) := by decide +kernel
theorem dX6_atom1_114 : decode cX6_atom1 114 = .ok (.l2i, 1) := by decide +kernel
theorem dX6_atom1_115 : decode cX6_atom1 115 = .ok (.istore_n 1, 1) := by decide +kernel
theorem dX6_atom1_116 : decode cX6_atom1 116 = .ok (.aload_n 0, 1) := by decide +kernel
theorem dX6_atom1_117 : decode cX6_atom1 117 = .ok (.invokevirtual 193, 3) := by decide +kernel
theorem dX6_atom1_120 : decode cX6_atom1 120 = .ok (.goto 41, 3) := by decide +kernel
theorem dX6_atom1_123 : decode cX6_atom1 123 = .ok (.aload_n 0, 1) := by decide +kernel
theorem dX6_atom1_124 : decode cX6_atom1 124 = .ok (.getfield 177, 3) := by decide +kernel
theorem dX6_atom1_127 : decode cX6_atom1 127 = .ok (.ifCond .ne 30, 3) := by decide +kernel
theorem dX6_atom1_130 : decode cX6_atom1 130 = .ok (.aload_n 0, 1) := by decide +kernel
theorem dX6_atom1_131 : decode cX6_atom1 131 = .ok (.getfield 161, 3) := by decide +kernel
theorem dX6_atom1_134 : decode cX6_atom1 134 = .ok (.iconst 1, 1) := by decide +kernel
theorem dX6_atom1_135 : decode cX6_atom1 135 = .ok (.if_icmp .ne 22, 3) := by decide +kernel
theorem dX6_atom1_138 : decode cX6_atom1 138 = .ok (.aload_n 0, 1) := by decide +kernel
theorem dX6_atom1_139 : decode cX6_atom1 139 = .ok (.invokevirtual 225, 3) := by decide +kernel
theorem dX6_atom1_142 : decode cX6_atom1 142 = .ok (.istore_n 1, 1) := by decide +kernel
theorem dX6_atom1_143 : decode cX6_atom1 143 = .ok (.aload_n 0, 1) := by decide +kernel
theorem dX6_atom1_144 : decode cX6_atom1 144 = .ok (.getfield 177, 3) := by decide +kernel
theorem dX6_atom1_147 : decode cX6_atom1 147 = .ok (.ifCond .ne 14, 3) := by decide +kernel
theorem dX6_atom1_150 : decode cX6_atom1 150 = .ok (.aload_n 0, 1) := by decide +kernel
theorem dX6_atom1_151 : decode cX6_atom1 151 = .ok (.invokevirtual 193, 3) := by decide +kernel
theorem dX6_atom1_154 : decode cX6_atom1 154 = .ok (.goto 7, 3) := by decide +kernel
theorem dX6_atom1_157 : decode cX6_atom1 157 = .ok (.aload_n 0, 1) := by decide +kernel
theorem dX6_atom1_158 : decode cX6_atom1 158 = .ok (.invokevirtual 190, 3) := by decide +kernel
theorem dX6_atom1_161 : decode cX6_atom1 161 = .ok (.iload_n 1, 1) := by decide +kernel
theorem dX6_atom1_162 : decode cX6_atom1 162 = .ok (.ireturn, 1) := by decide +kernel
set_option maxRecDepth 20000 in
theorem dX6_term1_0 : decode cX6_term1 0 = .ok (.aload_n 0, 1) := by decide +kernel
theorem dX6_term1_1 : decode cX6_term1 1 = .ok (.invokevirtual 305, 3) := by decide +kernel
theorem dX6_term1_4 : decode cX6_term1 4 = .ok (.istore_n 1, 1) := by decide +kernel
theorem dX6_term1_5 : decode cX6_term1 5 = .ok (.aload_n 0, 1) := by decide +kernel
theorem dX6_term1_6 : decode cX6_term1 6 = .ok (.bipush 42, 2) := by decide +kernel
theorem dX6_term1_8 : decode cX6_term1 8 = .ok (.invokevirtual 218, 3) := by decide +kernel
theorem dX6_term1_11 : decode cX6_term1 11 = .ok (.ifCond .eq 17, 3) := by decide +kernel
theorem dX6_term1_14 : decode cX6_term1 14 = .ok (.aload_n 0, 1) := by decide +kernel
theorem dX6_term1_15 : decode cX6_term1 15 = .ok (.invokevirtual 193, 3) := by decide +kernel
theorem dX6_term1_18 : decode cX6_term1 18 = .ok (.iload_n 1, 1) := by decide +kernel
theorem dX6_term1_19 : decode cX6_term1 19 = .ok (.aload_n 0, 1) := by decide +kernel
theorem dX6_term1_20 : decode cX6_term1 20 = .ok (.invokevirtual 305, 3) := by decide +kernel
theorem dX6_term1_23 : decode cX6_term1 23 = .ok (.imul, 1) := by decide +kernel
theorem dX6_term1_24 : decode cX6_term1 24 = .ok (.istore_n 1, 1) := by decide +kernel
theorem dX6_term1_25 : decode cX6_term1 25 = .ok (.goto (-20), 3) := by decide +kernel
theorem dX6_term1_28 : decode cX6_term1 28 = .ok (.iload_n 1, 1) := by decide +kernel
theorem dX6_term1_29 : decode cX6_term1 29 = .ok (.ireturn, 1) := by decide +kernel
set_option maxRecDepth 20000 in
theorem dX6_added1_0 : decode cX6_added1 0 = .ok (.aload_n 0, 1) := by decide +kernel
theorem dX6_added1_1 : decode cX6_added1 1 = .ok (.invokevirtual 308, 3) := by decide +kernel
theorem dX6_added1_4 : decode cX6_added1 4 = .ok (.istore_n 1, 1) := by decide +kernel
theorem dX6_added1_5 : decode cX6_added1 5 = .ok (.aload_n 0, 1) := by decide +kernel
theorem dX6_added1_6 : decode cX6_added1 6 = .ok (.bipush 43, 2) := by decide +kernel
theorem dX6_added1_8 : decode cX6_added1 8 = .ok (.invokevirtual 218, 3) := by decide +kernel
theorem dX6_added1_11 : decode cX6_added1 11 = .ok (.ifCond .ne 12, 3) := by decide +kernel
theorem dX6_added1_14 : decode cX6_added1 14 = .ok (.aload_n 0, 1) := by decide +kernel
theorem dX6_added1_15 : decode cX6_added1 15 = .ok (.bipush 45, 2) := by decide +kernel
theorem dX6_added1_17 : decode cX6_added1 17 = .ok (.invokevirtual 218, 3) := by decide +kernel
theorem dX6_added1_20 : decode cX6_added1 20 = .ok (.ifCond .eq 46, 3) := by decide +kernel
theorem dX6_added1_23 : decode cX6_added1 23 = .ok (.aload_n 0, 1) := by decide +kernel
theorem dX6_added1_24 : decode cX6_added1 24 = .ok (.getfield 172, 3) := by decide +kernel
theorem dX6_added1_27 : decode cX6_added1 27 = .ok (.ldc2_w 235, 3) := by decide +kernel
theorem dX6_added1_30 : decode cX6_added1 30 = .ok (.lcmp, 1) := by decide +kernel
theorem dX6_added1_31 : decode cX6_added1 31 = .ok (.ifCond .ne 7, 3) := by decide +kernel
theorem dX6_added1_34 : decode cX6_added1 34 = .ok (.iconst 1, 1) := by decide +kernel
theorem dX6_added1_35 : decode cX6_added1 35 = .ok (.goto 4, 3) := by decide +kernel
theorem dX6_added1_38 : decode cX6_added1 38 = .ok (.iconst 0, 1) := by decide +kernel
theorem dX6_added1_39 : decode cX6_added1 39 = .ok (.istore_n 2, 1) := by decide +kernel
theorem dX6_added1_40 : decode cX6_added1 40 = .ok (.aload_n 0, 1) := by decide +kernel
theorem dX6_added1_41 : decode cX6_added1 41 = .ok (.invokevirtual 193, 3) := by decide +kernel
theorem dX6_added1_44 : decode cX6_added1 44 = .ok (.aload_n 0, 1) := by decide +kernel
theorem dX6_added1_45 : decode cX6_added1 45 = .ok (.invokevirtual 308, 3) := by decide +kernel
theorem dX6_added1_48 : decode cX6_added1 48 = .ok (.istore_n 3, 1) := by decide +kernel
theorem dX6_added1_49 : decode cX6_added1 49 = .ok (.iload_n 2, 1) := by decide +kernel
theorem dX6_added1_50 : decode cX6_added1 50 = .ok (.ifCond .eq 9, 3) := by decide +kernel
theorem dX6_added1_53 : decode cX6_added1 53 = .ok (.iload_n 1, 1) := by decide +kernel
theorem dX6_added1_54 : decode cX6_added1 54 = .ok (.iload_n 3, 1) := by decide +kernel
theorem dX6_added1_55 : decode cX6_added1 55 = .ok (.iadd, 1) := by decide +kernel
theorem dX6_added1_56 : decode cX6_added1 56 = .ok (.goto 6, 3) := by decide +kernel
theorem dX6_added1_59 : decode cX6_added1 59 = .ok (.iload_n 1, 1) := by decide +kernel
theorem dX6_added1_60 : decode cX6_added1 60 = .ok (.iload_n 3, 1) := by decide +kernel
theorem dX6_added1_61 : decode cX6_added1 61 = .ok (.isub, 1) := by decide +kernel
theorem dX6_added1_62 : decode cX6_added1 62 = .ok (.istore_n 1, 1) := by decide +kernel
theorem dX6_added1_63 : decode cX6_added1 63 = .ok (.goto (-58), 3) := by decide +kernel
theorem dX6_added1_66 : decode cX6_added1 66 = .ok (.iload_n 1, 1) := by decide +kernel
theorem dX6_added1_67 : decode cX6_added1 67 = .ok (.ireturn, 1) := by decide +kernel
set_option maxRecDepth 20000 in
theorem dX6_not1_0 : decode cX6_not1 0 = .ok (.aload_n 0, 1) := by decide +kernel
theorem dX6_not1_1 : decode cX6_not1 1 = .ok (.bipush 110, 2) := by decide +kernel
theorem dX6_not1_3 : decode cX6_not1 3 = .ok (.bipush 111, 2) := by decide +kernel
theorem dX6_not1_5 : decode cX6_not1 5 = .ok (.bipush 116, 2) := by decide +kernel
theorem dX6_not1_7 : decode cX6_not1 7 = .ok (.iconst 0, 1) := by decide +kernel
theorem dX6_not1_8 : decode cX6_not1 8 = .ok (.iconst 0, 1) := by decide +kernel
theorem dX6_not1_9 : decode cX6_not1 9 = .ok (.iconst 0, 1) := by decide +kernel
theorem dX6_not1_10 : decode cX6_not1 10 = .ok (.iconst 0, 1) := by decide +kernel
theorem dX6_not1_11 : decode cX6_not1 11 = .ok (.iconst 0, 1) := by decide +kernel
theorem dX6_not1_12 : decode cX6_not1 12 = .ok (.invokevirtual 196, 3) := by decide +kernel
theorem dX6_not1_15 : decode cX6_not1 15 = .ok (.ifCond .eq 37, 3) := by decide +kernel
theorem dX6_not1_18 : decode cX6_not1 18 = .ok (.aload_n 0, 1) := by decide +kernel
theorem dX6_not1_19 : decode cX6_not1 19 = .ok (.invokevirtual 221, 3) := by decide +kernel
theorem dX6_not1_22 : decode cX6_not1 22 = .ok (.ifCond .ne 5, 3) := by decide +kernel
theorem dX6_not1_25 : decode cX6_not1 25 = .ok (.iconst 0, 1) := by decide +kernel
theorem dX6_not1_26 : decode cX6_not1 26 = .ok (.ireturn, 1) := by decide +kernel
theorem dX6_not1_27 : decode cX6_not1 27 = .ok (.aload_n 0, 1) := by decide +kernel
theorem dX6_not1_28 : decode cX6_not1 28 = .ok (.invokevirtual 296, 3) := by decide +kernel
theorem dX6_not1_31 : decode cX6_not1 31 = .ok (.istore_n 1, 1) := by decide +kernel
theorem dX6_not1_32 : decode cX6_not1 32 = .ok (.aload_n 0, 1) := by decide +kernel
theorem dX6_not1_33 : decode cX6_not1 33 = .ok (.dup, 1) := by decide +kernel
theorem dX6_not1_34 : decode cX6_not1 34 = .ok (.getfield 187, 3) := by decide +kernel
theorem dX6_not1_37 : decode cX6_not1 37 = .ok (.iconst 1, 1) := by decide +kernel
theorem dX6_not1_38 : decode cX6_not1 38 = .ok (.isub, 1) := by decide +kernel
theorem dX6_not1_39 : decode cX6_not1 39 = .ok (.putfield 187, 3) := by decide +kernel
theorem dX6_not1_42 : decode cX6_not1 42 = .ok (.iload_n 1, 1) := by decide +kernel
theorem dX6_not1_43 : decode cX6_not1 43 = .ok (.ifCond .ne 7, 3) := by decide +kernel
theorem dX6_not1_46 : decode cX6_not1 46 = .ok (.iconst 1, 1) := by decide +kernel
theorem dX6_not1_47 : decode cX6_not1 47 = .ok (.goto 4, 3) := by decide +kernel
theorem dX6_not1_50 : decode cX6_not1 50 = .ok (.iconst 0, 1) := by decide +kernel
theorem dX6_not1_51 : decode cX6_not1 51 = .ok (.ireturn, 1) := by decide +kernel
theorem dX6_not1_52 : decode cX6_not1 52 = .ok (.aload_n 0, 1) := by decide +kernel
theorem dX6_not1_53 : decode cX6_not1 53 = .ok (.invokevirtual 311, 3) := by decide +kernel
theorem dX6_not1_56 : decode cX6_not1 56 = .ok (.istore_n 1, 1) := by decide +kernel
theorem dX6_not1_57 : decode cX6_not1 57 = .ok (.aload_n 0, 1) := by decide +kernel
theorem dX6_not1_58 : decode cX6_not1 58 = .ok (.bipush 60, 2) := by decide +kernel
theorem dX6_not1_60 : decode cX6_not1 60 = .ok (.invokevirtual 218, 3) := by decide +kernel
theorem dX6_not1_63 : decode cX6_not1 63 = .ok (.ifCond .ne 14, 3) := by decide +kernel
theorem dX6_not1_66 : decode cX6_not1 66 = .ok (.aload_n 0, 1) := by decide +kernel
theorem dX6_not1_67 : decode cX6_not1 67 = .ok (.bipush 61, 2) := by decide +kernel
theorem dX6_not1_69 : decode cX6_not1 69 = .ok (.invokevirtual 218, 3) := by decide +kernel
theorem dX6_not1_72 : decode cX6_not1 72 = .ok (.ifCond .ne 5, 3) := by decide +kernel
theorem dX6_not1_75 : decode cX6_not1 75 = .ok (.iload_n 1, 1) := by decide +kernel
theorem dX6_not1_76 : decode cX6_not1 76 = .ok (.ireturn, 1) := by decide +kernel
theorem dX6_not1_77 : decode cX6_not1 77 = .ok (.aload_n 0, 1) := by decide +kernel
theorem dX6_not1_78 : decode cX6_not1 78 = .ok (.getfield 172, 3) := by decide +kernel
theorem dX6_not1_81 : decode cX6_not1 81 = .ok (.ldc2_w 240, 3) := by decide +kernel
theorem dX6_not1_84 : decode cX6_not1 84 = .ok (.lcmp, 1) := by decide +kernel
theorem dX6_not1_85 : decode cX6_not1 85 = .ok (.ifCond .ne 7, 3) := by decide +kernel
theorem dX6_not1_88 : decode cX6_not1 88 = .ok (.iconst 1, 1) := by decide +kernel
theorem dX6_not1_89 : decode cX6_not1 89 = .ok (.goto 4, 3) := by decide +kernel
theorem dX6_not1_92 : decode cX6_not1 92 = .ok (.iconst 0, 1) := by decide +kernel
theorem dX6_not1_93 : decode cX6_not1 93 = .ok (.istore_n 2, 1) := by decide +kernel
theorem dX6_not1_94 : decode cX6_not1 94 = .ok (.aload_n 0, 1) := by decide +kernel
theorem dX6_not1_95 : decode cX6_not1 95 = .ok (.invokevirtual 193, 3) := by decide +kernel
theorem dX6_not1_98 : decode cX6_not1 98 = .ok (.aload_n 0, 1) := by decide +kernel
theorem dX6_not1_99 : decode cX6_not1 99 = .ok (.invokevirtual 311, 3) := by decide +kernel
theorem dX6_not1_102 : decode cX6_not1 102 = .ok (.istore_n 3, 1) := by decide +kernel
theorem dX6_not1_103 : decode cX6_not1 103 = .ok (.iload_n 2, 1) := by decide +kernel
theorem dX6_not1_104 : decode cX6_not1 104 = .ok (.ifCond .eq 11, 3) := by decide +kernel
theorem dX6_not1_107 : decode cX6_not1 107 = .ok (.iload_n 1, 1) := by decide +kernel
theorem dX6_not1_108 : decode cX6_not1 108 = .ok (.iload_n 3, 1) := by decide +kernel
theorem dX6_not1_109 : decode cX6_not1 109 = .ok (.if_icmp .ge 15, 3) := by decide +kernel
theorem dX6_not1_112 : decode cX6_not1 112 = .ok (.goto 8, 3) := by decide +kernel
theorem dX6_not1_115 : decode cX6_not1 115 = .ok (.iload_n 1, 1) := by decide +kernel
theorem dX6_not1_116 : decode cX6_not1 116 = .ok (.iload_n 3, 1) := by decide +kernel
theorem dX6_not1_117 : decode cX6_not1 117 = .ok (.if_icmp .ne 7, 3) := by decide +kernel
theorem dX6_not1_120 : decode cX6_not1 120 = .ok (.iconst 1, 1) := by decide +kernel
theorem dX6_not1_121 : decode cX6_not1 121 = .ok (.goto 4, 3) := by decide +kernel
theorem dX6_not1_124 : decode cX6_not1 124 = .ok (.iconst 0, 1) := by decide +kernel
theorem dX6_not1_125 : decode cX6_not1 125 = .ok (.ireturn, 1) := by decide +kernel
set_option maxRecDepth 20000 in
theorem dX6_both1_0 : decode cX6_both1 0 = .ok (.aload_n 0, 1) := by decide +kernel
theorem dX6_both1_1 : decode cX6_both1 1 = .ok (.invokevirtual 314, 3) := by decide +kernel
theorem dX6_both1_4 : decode cX6_both1 4 = .ok (.istore_n 1, 1) := by decide +kernel
theorem dX6_both1_5 : decode cX6_both1 5 = .ok (.aload_n 0, 1) := by decide +kernel
theorem dX6_both1_6 : decode cX6_both1 6 = .ok (.bipush 97, 2) := by decide +kernel
theorem dX6_both1_8 : decode cX6_both1 8 = .ok (.bipush 110, 2) := by decide +kernel
theorem dX6_both1_10 : decode cX6_both1 10 = .ok (.bipush 100, 2) := by decide +kernel
theorem dX6_both1_12 : decode cX6_both1 12 = .ok (.iconst 0, 1) := by decide +kernel
theorem dX6_both1_13 : decode cX6_both1 13 = .ok (.iconst 0, 1) := by decide +kernel
theorem dX6_both1_14 : decode cX6_both1 14 = .ok (.iconst 0, 1) := by decide +kernel
theorem dX6_both1_15 : decode cX6_both1 15 = .ok (.iconst 0, 1) := by decide +kernel
theorem dX6_both1_16 : decode cX6_both1 16 = .ok (.iconst 0, 1) := by decide +kernel
theorem dX6_both1_17 : decode cX6_both1 17 = .ok (.invokevirtual 196, 3) := by decide +kernel
theorem dX6_both1_20 : decode cX6_both1 20 = .ok (.ifCond .eq 29, 3) := by decide +kernel
theorem dX6_both1_23 : decode cX6_both1 23 = .ok (.aload_n 0, 1) := by decide +kernel
theorem dX6_both1_24 : decode cX6_both1 24 = .ok (.invokevirtual 193, 3) := by decide +kernel
theorem dX6_both1_27 : decode cX6_both1 27 = .ok (.aload_n 0, 1) := by decide +kernel
theorem dX6_both1_28 : decode cX6_both1 28 = .ok (.invokevirtual 314, 3) := by decide +kernel
theorem dX6_both1_31 : decode cX6_both1 31 = .ok (.istore_n 2, 1) := by decide +kernel
theorem dX6_both1_32 : decode cX6_both1 32 = .ok (.iload_n 1, 1) := by decide +kernel
theorem dX6_both1_33 : decode cX6_both1 33 = .ok (.ifCond .eq 11, 3) := by decide +kernel
theorem dX6_both1_36 : decode cX6_both1 36 = .ok (.iload_n 2, 1) := by decide +kernel
theorem dX6_both1_37 : decode cX6_both1 37 = .ok (.ifCond .eq 7, 3) := by decide +kernel
theorem dX6_both1_40 : decode cX6_both1 40 = .ok (.iconst 1, 1) := by decide +kernel
theorem dX6_both1_41 : decode cX6_both1 41 = .ok (.goto 4, 3) := by decide +kernel
theorem dX6_both1_44 : decode cX6_both1 44 = .ok (.iconst 0, 1) := by decide +kernel
theorem dX6_both1_45 : decode cX6_both1 45 = .ok (.istore_n 1, 1) := by decide +kernel
theorem dX6_both1_46 : decode cX6_both1 46 = .ok (.goto (-41), 3) := by decide +kernel
theorem dX6_both1_49 : decode cX6_both1 49 = .ok (.iload_n 1, 1) := by decide +kernel
theorem dX6_both1_50 : decode cX6_both1 50 = .ok (.ireturn, 1) := by decide +kernel
set_option maxRecDepth 20000 in
theorem dX6_either1_0 : decode cX6_either1 0 = .ok (.aload_n 0, 1) := by decide +kernel
theorem dX6_either1_1 : decode cX6_either1 1 = .ok (.invokevirtual 317, 3) := by decide +kernel
theorem dX6_either1_4 : decode cX6_either1 4 = .ok (.istore_n 1, 1) := by decide +kernel
theorem dX6_either1_5 : decode cX6_either1 5 = .ok (.aload_n 0, 1) := by decide +kernel
theorem dX6_either1_6 : decode cX6_either1 6 = .ok (.bipush 111, 2) := by decide +kernel
theorem dX6_either1_8 : decode cX6_either1 8 = .ok (.bipush 114, 2) := by decide +kernel
theorem dX6_either1_10 : decode cX6_either1 10 = .ok (.iconst 0, 1) := by decide +kernel
theorem dX6_either1_11 : decode cX6_either1 11 = .ok (.iconst 0, 1) := by decide +kernel
theorem dX6_either1_12 : decode cX6_either1 12 = .ok (.iconst 0, 1) := by decide +kernel
theorem dX6_either1_13 : decode cX6_either1 13 = .ok (.iconst 0, 1) := by decide +kernel
theorem dX6_either1_14 : decode cX6_either1 14 = .ok (.iconst 0, 1) := by decide +kernel
theorem dX6_either1_15 : decode cX6_either1 15 = .ok (.iconst 0, 1) := by decide +kernel
theorem dX6_either1_16 : decode cX6_either1 16 = .ok (.invokevirtual 196, 3) := by decide +kernel
theorem dX6_either1_19 : decode cX6_either1 19 = .ok (.ifCond .eq 29, 3) := by decide +kernel
theorem dX6_either1_22 : decode cX6_either1 22 = .ok (.aload_n 0, 1) := by decide +kernel
theorem dX6_either1_23 : decode cX6_either1 23 = .ok (.invokevirtual 193, 3) := by decide +kernel
theorem dX6_either1_26 : decode cX6_either1 26 = .ok (.aload_n 0, 1) := by decide +kernel
theorem dX6_either1_27 : decode cX6_either1 27 = .ok (.invokevirtual 317, 3) := by decide +kernel
theorem dX6_either1_30 : decode cX6_either1 30 = .ok (.istore_n 2, 1) := by decide +kernel
theorem dX6_either1_31 : decode cX6_either1 31 = .ok (.iload_n 1, 1) := by decide +kernel
theorem dX6_either1_32 : decode cX6_either1 32 = .ok (.ifCond .ne 7, 3) := by decide +kernel
theorem dX6_either1_35 : decode cX6_either1 35 = .ok (.iload_n 2, 1) := by decide +kernel
theorem dX6_either1_36 : decode cX6_either1 36 = .ok (.ifCond .eq 7, 3) := by decide +kernel
theorem dX6_either1_39 : decode cX6_either1 39 = .ok (.iconst 1, 1) := by decide +kernel
theorem dX6_either1_40 : decode cX6_either1 40 = .ok (.goto 4, 3) := by decide +kernel
theorem dX6_either1_43 : decode cX6_either1 43 = .ok (.iconst 0, 1) := by decide +kernel
theorem dX6_either1_44 : decode cX6_either1 44 = .ok (.istore_n 1, 1) := by decide +kernel
theorem dX6_either1_45 : decode cX6_either1 45 = .ok (.goto (-40), 3) := by decide +kernel
theorem dX6_either1_48 : decode cX6_either1 48 = .ok (.iload_n 1, 1) := by decide +kernel
theorem dX6_either1_49 : decode cX6_either1 49 = .ok (.ireturn, 1) := by decide +kernel
set_option maxRecDepth 20000 in
theorem dX6_atom0_0 : decode cX6_atom0 0 = .ok (.iconst 0, 1) := by decide +kernel
theorem dX6_atom0_1 : decode cX6_atom0 1 = .ok (.istore_n 1, 1) := by decide +kernel
theorem dX6_atom0_2 : decode cX6_atom0 2 = .ok (.aload_n 0, 1) := by decide +kernel
theorem dX6_atom0_3 : decode cX6_atom0 3 = .ok (.bipush 45, 2) := by decide +kernel
theorem dX6_atom0_5 : decode cX6_atom0 5 = .ok (.invokevirtual 218, 3) := by decide +kernel
theorem dX6_atom0_8 : decode cX6_atom0 8 = .ok (.ifCond .eq 29, 3) := by decide +kernel
theorem dX6_atom0_11 : decode cX6_atom0 11 = .ok (.aload_n 0, 1) := by decide +kernel
theorem dX6_atom0_12 : decode cX6_atom0 12 = .ok (.invokevirtual 221, 3) := by decide +kernel
theorem dX6_atom0_15 : decode cX6_atom0 15 = .ok (.ifCond .eq 146, 3) := by decide +kernel
theorem dX6_atom0_18 : decode cX6_atom0 18 = .ok (.aload_n 0, 1) := by decide +kernel
theorem dX6_atom0_19 : decode cX6_atom0 19 = .ok (.invokevirtual 305, 3) := by decide +kernel
theorem dX6_atom0_22 : decode cX6_atom0 22 = .ok (.ineg, 1) := by decide +kernel
theorem dX6_atom0_23 : decode cX6_atom0 23 = .ok (.istore_n 1, 1) := by decide +kernel
theorem dX6_atom0_24 : decode cX6_atom0 24 = .ok (.aload_n 0, 1) := by decide +kernel
theorem dX6_atom0_25 : decode cX6_atom0 25 = .ok (.dup, 1) := by decide +kernel
theorem dX6_atom0_26 : decode cX6_atom0 26 = .ok (.getfield 187, 3) := by decide +kernel
theorem dX6_atom0_29 : decode cX6_atom0 29 = .ok (.iconst 1, 1) := by decide +kernel
theorem dX6_atom0_30 : decode cX6_atom0 30 = .ok (.isub, 1) := by decide +kernel
theorem dX6_atom0_31 : decode cX6_atom0 31 = .ok (.putfield 187, 3) := by decide +kernel
theorem dX6_atom0_34 : decode cX6_atom0 34 = .ok (.goto 127, 3) := by decide +kernel
theorem dX6_atom0_37 : decode cX6_atom0 37 = .ok (.aload_n 0, 1) := by decide +kernel
theorem dX6_atom0_38 : decode cX6_atom0 38 = .ok (.bipush 40, 2) := by decide +kernel
theorem dX6_atom0_40 : decode cX6_atom0 40 = .ok (.invokevirtual 218, 3) := by decide +kernel
theorem dX6_atom0_43 : decode cX6_atom0 43 = .ok (.ifCond .eq 52, 3) := by decide +kernel
theorem dX6_atom0_46 : decode cX6_atom0 46 = .ok (.aload_n 0, 1) := by decide +kernel
theorem dX6_atom0_47 : decode cX6_atom0 47 = .ok (.invokevirtual 221, 3) := by decide +kernel
theorem dX6_atom0_50 : decode cX6_atom0 50 = .ok (.ifCond .eq 111, 3) := by decide +kernel
theorem dX6_atom0_53 : decode cX6_atom0 53 = .ok (.aload_n 0, 1) := by decide +kernel
theorem dX6_atom0_54 : decode cX6_atom0 54 = .ok (.invokevirtual 320, 3) := by decide +kernel
theorem dX6_atom0_57 : decode cX6_atom0 57 = .ok (.istore_n 1, 1) := by decide +kernel
theorem dX6_atom0_58 : decode cX6_atom0 58 = .ok (.aload_n 0, 1) := by decide +kernel
theorem dX6_atom0_59 : decode cX6_atom0 59 = .ok (.bipush 41, 2) := by decide +kernel
theorem dX6_atom0_61 : decode cX6_atom0 61 = .ok (.invokevirtual 218, 3) := by decide +kernel
theorem dX6_atom0_64 : decode cX6_atom0 64 = .ok (.ifCond .ne 7, 3) := by decide +kernel
theorem dX6_atom0_67 : decode cX6_atom0 67 = .ok (.aload_n 0, 1) := by decide +kernel
theorem dX6_atom0_68 : decode cX6_atom0 68 = .ok (.invokevirtual 190, 3) := by decide +kernel
theorem dX6_atom0_71 : decode cX6_atom0 71 = .ok (.aload_n 0, 1) := by decide +kernel
theorem dX6_atom0_72 : decode cX6_atom0 72 = .ok (.dup, 1) := by decide +kernel
theorem dX6_atom0_73 : decode cX6_atom0 73 = .ok (.getfield 187, 3) := by decide +kernel
theorem dX6_atom0_76 : decode cX6_atom0 76 = .ok (.iconst 1, 1) := by decide +kernel
theorem dX6_atom0_77 : decode cX6_atom0 77 = .ok (.isub, 1) := by decide +kernel
theorem dX6_atom0_78 : decode cX6_atom0 78 = .ok (.putfield 187, 3) := by decide +kernel
theorem dX6_atom0_81 : decode cX6_atom0 81 = .ok (.aload_n 0, 1) := by decide +kernel
theorem dX6_atom0_82 : decode cX6_atom0 82 = .ok (.getfield 177, 3) := by decide +kernel
theorem dX6_atom0_85 : decode cX6_atom0 85 = .ok (.ifCond .ne 76, 3) := by decide +kernel
theorem dX6_atom0_88 : decode cX6_atom0 88 = .ok (.aload_n 0, 1) := by decide +kernel
theorem dX6_atom0_89 : decode cX6_atom0 89 = .ok (.invokevirtual 193, 3) := by decide +kernel
theorem dX6_atom0_92 : decode cX6_atom0 92 = .ok (.goto 69, 3) := by decide +kernel
theorem dX6_atom0_95 : decode cX6_atom0 95 = .ok (.aload_n 0, 1) := by decide +kernel
theorem dX6_atom0_96 : decode cX6_atom0 96 = .ok (.getfield 177, 3) := by decide +kernel
theorem dX6_atom0_99 : decode cX6_atom0 99 = .ok (.ifCond .ne 24, 3) := by decide +kernel
theorem dX6_atom0_102 : decode cX6_atom0 102 = .ok (.aload_n 0, 1) := by decide +kernel
theorem dX6_atom0_103 : decode cX6_atom0 103 = .ok (.getfield 161, 3) := by decide +kernel
theorem dX6_atom0_106 : decode cX6_atom0 106 = .ok (.iconst 2, 1) := by decide +kernel
theorem dX6_atom0_107 : decode cX6_atom0 107 = .ok (.if_icmp .ne 16, 3) := by decide +kernel
theorem dX6_atom0_110 : decode cX6_atom0 110 = .ok (.aload_n 0, 1) := by decide +kernel
theorem dX6_atom0_111 : decode cX6_atom0 111 = .ok (.getfield 172, 3) := by decide +kernel
theorem dX6_atom0_114 : decode cX6_atom0 114 = .ok (.l2i, 1) := by decide +kernel
theorem dX6_atom0_115 : decode cX6_atom0 115 = .ok (.istore_n 1, 1) := by decide +kernel
theorem dX6_atom0_116 : decode cX6_atom0 116 = .ok (.aload_n 0, 1) := by decide +kernel
theorem dX6_atom0_117 : decode cX6_atom0 117 = .ok (.invokevirtual 193, 3) := by decide +kernel
theorem dX6_atom0_120 : decode cX6_atom0 120 = .ok (.goto 41, 3) := by decide +kernel
theorem dX6_atom0_123 : decode cX6_atom0 123 = .ok (.aload_n 0, 1) := by decide +kernel
theorem dX6_atom0_124 : decode cX6_atom0 124 = .ok (.getfield 177, 3) := by decide +kernel
theorem dX6_atom0_127 : decode cX6_atom0 127 = .ok (.ifCond .ne 30, 3) := by decide +kernel
theorem dX6_atom0_130 : decode cX6_atom0 130 = .ok (.aload_n 0, 1) := by decide +kernel
theorem dX6_atom0_131 : decode cX6_atom0 131 = .ok (.getfield 161, 3) := by decide +kernel
theorem dX6_atom0_134 : decode cX6_atom0 134 = .ok (.iconst 1, 1) := by decide +kernel
theorem dX6_atom0_135 : decode cX6_atom0 135 = .ok (.if_icmp .ne 22, 3) := by decide +kernel
theorem dX6_atom0_138 : decode cX6_atom0 138 = .ok (.aload_n 0, 1) := by decide +kernel
theorem dX6_atom0_139 : decode cX6_atom0 139 = .ok (.invokevirtual 225, 3) := by decide +kernel
theorem dX6_atom0_142 : decode cX6_atom0 142 = .ok (.istore_n 1, 1) := by decide +kernel
theorem dX6_atom0_143 : decode cX6_atom0 143 = .ok (.aload_n 0, 1) := by decide +kernel
theorem dX6_atom0_144 : decode cX6_atom0 144 = .ok (.getfield 177, 3) := by decide +kernel
theorem dX6_atom0_147 : decode cX6_atom0 147 = .ok (.ifCond .ne 14, 3) := by decide +kernel
theorem dX6_atom0_150 : decode cX6_atom0 150 = .ok (.aload_n 0, 1) := by decide +kernel
theorem dX6_atom0_151 : decode cX6_atom0 151 = .ok (.invokevirtual 193, 3) := by decide +kernel
theorem dX6_atom0_154 : decode cX6_atom0 154 = .ok (.goto 7, 3) := by decide +kernel
theorem dX6_atom0_157 : decode cX6_atom0 157 = .ok (.aload_n 0, 1) := by decide +kernel
theorem dX6_atom0_158 : decode cX6_atom0 158 = .ok (.invokevirtual 190, 3) := by decide +kernel
theorem dX6_atom0_161 : decode cX6_atom0 161 = .ok (.iload_n 1, 1) := by decide +kernel
theorem dX6_atom0_162 : decode cX6_atom0 162 = .ok (.ireturn, 1) := by decide +kernel
set_option maxRecDepth 20000 in
theorem dX6_term0_0 : decode cX6_term0 0 = .ok (.aload_n 0, 1) := by decide +kernel
theorem dX6_term0_1 : decode cX6_term0 1 = .ok (.invokevirtual 323, 3) := by decide +kernel
theorem dX6_term0_4 : decode cX6_term0 4 = .ok (.istore_n 1, 1) := by decide +kernel
theorem dX6_term0_5 : decode cX6_term0 5 = .ok (.aload_n 0, 1) := by decide +kernel
theorem dX6_term0_6 : decode cX6_term0 6 = .ok (.bipush 42, 2) := by decide +kernel
theorem dX6_term0_8 : decode cX6_term0 8 = .ok (.invokevirtual 218, 3) := by decide +kernel
theorem dX6_term0_11 : decode cX6_term0 11 = .ok (.ifCond .eq 17, 3) := by decide +kernel
theorem dX6_term0_14 : decode cX6_term0 14 = .ok (.aload_n 0, 1) := by decide +kernel
theorem dX6_term0_15 : decode cX6_term0 15 = .ok (.invokevirtual 193, 3) := by decide +kernel
theorem dX6_term0_18 : decode cX6_term0 18 = .ok (.iload_n 1, 1) := by decide +kernel
theorem dX6_term0_19 : decode cX6_term0 19 = .ok (.aload_n 0, 1) := by decide +kernel
theorem dX6_term0_20 : decode cX6_term0 20 = .ok (.invokevirtual 323, 3) := by decide +kernel
theorem dX6_term0_23 : decode cX6_term0 23 = .ok (.imul, 1) := by decide +kernel
theorem dX6_term0_24 : decode cX6_term0 24 = .ok (.istore_n 1, 1) := by decide +kernel
theorem dX6_term0_25 : decode cX6_term0 25 = .ok (.goto (-20), 3) := by decide +kernel
theorem dX6_term0_28 : decode cX6_term0 28 = .ok (.iload_n 1, 1) := by decide +kernel
theorem dX6_term0_29 : decode cX6_term0 29 = .ok (.ireturn, 1) := by decide +kernel
set_option maxRecDepth 20000 in
theorem dX6_added0_0 : decode cX6_added0 0 = .ok (.aload_n 0, 1) := by decide +kernel
theorem dX6_added0_1 : decode cX6_added0 1 = .ok (.invokevirtual 326, 3) := by decide +kernel
theorem dX6_added0_4 : decode cX6_added0 4 = .ok (.istore_n 1, 1) := by decide +kernel
theorem dX6_added0_5 : decode cX6_added0 5 = .ok (.aload_n 0, 1) := by decide +kernel
theorem dX6_added0_6 : decode cX6_added0 6 = .ok (.bipush 43, 2) := by decide +kernel
theorem dX6_added0_8 : decode cX6_added0 8 = .ok (.invokevirtual 218, 3) := by decide +kernel
theorem dX6_added0_11 : decode cX6_added0 11 = .ok (.ifCond .ne 12, 3) := by decide +kernel
theorem dX6_added0_14 : decode cX6_added0 14 = .ok (.aload_n 0, 1) := by decide +kernel
theorem dX6_added0_15 : decode cX6_added0 15 = .ok (.bipush 45, 2) := by decide +kernel
theorem dX6_added0_17 : decode cX6_added0 17 = .ok (.invokevirtual 218, 3) := by decide +kernel
theorem dX6_added0_20 : decode cX6_added0 20 = .ok (.ifCond .eq 46, 3) := by decide +kernel
theorem dX6_added0_23 : decode cX6_added0 23 = .ok (.aload_n 0, 1) := by decide +kernel
theorem dX6_added0_24 : decode cX6_added0 24 = .ok (.getfield 172, 3) := by decide +kernel
theorem dX6_added0_27 : decode cX6_added0 27 = .ok (.ldc2_w 235, 3) := by decide +kernel
theorem dX6_added0_30 : decode cX6_added0 30 = .ok (.lcmp, 1) := by decide +kernel
theorem dX6_added0_31 : decode cX6_added0 31 = .ok (.ifCond .ne 7, 3) := by decide +kernel
theorem dX6_added0_34 : decode cX6_added0 34 = .ok (.iconst 1, 1) := by decide +kernel
theorem dX6_added0_35 : decode cX6_added0 35 = .ok (.goto 4, 3) := by decide +kernel
theorem dX6_added0_38 : decode cX6_added0 38 = .ok (.iconst 0, 1) := by decide +kernel
theorem dX6_added0_39 : decode cX6_added0 39 = .ok (.istore_n 2, 1) := by decide +kernel
theorem dX6_added0_40 : decode cX6_added0 40 = .ok (.aload_n 0, 1) := by decide +kernel
theorem dX6_added0_41 : decode cX6_added0 41 = .ok (.invokevirtual 193, 3) := by decide +kernel
theorem dX6_added0_44 : decode cX6_added0 44 = .ok (.aload_n 0, 1) := by decide +kernel
theorem dX6_added0_45 : decode cX6_added0 45 = .ok (.invokevirtual 326, 3) := by decide +kernel
theorem dX6_added0_48 : decode cX6_added0 48 = .ok (.istore_n 3, 1) := by decide +kernel
theorem dX6_added0_49 : decode cX6_added0 49 = .ok (.iload_n 2, 1) := by decide +kernel
theorem dX6_added0_50 : decode cX6_added0 50 = .ok (.ifCond .eq 9, 3) := by decide +kernel
theorem dX6_added0_53 : decode cX6_added0 53 = .ok (.iload_n 1, 1) := by decide +kernel
theorem dX6_added0_54 : decode cX6_added0 54 = .ok (.iload_n 3, 1) := by decide +kernel
theorem dX6_added0_55 : decode cX6_added0 55 = .ok (.iadd, 1) := by decide +kernel
theorem dX6_added0_56 : decode cX6_added0 56 = .ok (.goto 6, 3) := by decide +kernel
theorem dX6_added0_59 : decode cX6_added0 59 = .ok (.iload_n 1, 1) := by decide +kernel
theorem dX6_added0_60 : decode cX6_added0 60 = .ok (.iload_n 3, 1) := by decide +kernel
theorem dX6_added0_61 : decode cX6_added0 61 = .ok (.isub, 1) := by decide +kernel
theorem dX6_added0_62 : decode cX6_added0 62 = .ok (.istore_n 1, 1) := by decide +kernel
theorem dX6_added0_63 : decode cX6_added0 63 = .ok (.goto (-58), 3) := by decide +kernel
theorem dX6_added0_66 : decode cX6_added0 66 = .ok (.iload_n 1, 1) := by decide +kernel
theorem dX6_added0_67 : decode cX6_added0 67 = .ok (.ireturn, 1) := by decide +kernel
set_option maxRecDepth 20000 in
theorem dX6_not0_0 : decode cX6_not0 0 = .ok (.aload_n 0, 1) := by decide +kernel
theorem dX6_not0_1 : decode cX6_not0 1 = .ok (.bipush 110, 2) := by decide +kernel
theorem dX6_not0_3 : decode cX6_not0 3 = .ok (.bipush 111, 2) := by decide +kernel
theorem dX6_not0_5 : decode cX6_not0 5 = .ok (.bipush 116, 2) := by decide +kernel
theorem dX6_not0_7 : decode cX6_not0 7 = .ok (.iconst 0, 1) := by decide +kernel
theorem dX6_not0_8 : decode cX6_not0 8 = .ok (.iconst 0, 1) := by decide +kernel
theorem dX6_not0_9 : decode cX6_not0 9 = .ok (.iconst 0, 1) := by decide +kernel
theorem dX6_not0_10 : decode cX6_not0 10 = .ok (.iconst 0, 1) := by decide +kernel
theorem dX6_not0_11 : decode cX6_not0 11 = .ok (.iconst 0, 1) := by decide +kernel
theorem dX6_not0_12 : decode cX6_not0 12 = .ok (.invokevirtual 196, 3) := by decide +kernel
theorem dX6_not0_15 : decode cX6_not0 15 = .ok (.ifCond .eq 37, 3) := by decide +kernel
theorem dX6_not0_18 : decode cX6_not0 18 = .ok (.aload_n 0, 1) := by decide +kernel
theorem dX6_not0_19 : decode cX6_not0 19 = .ok (.invokevirtual 221, 3) := by decide +kernel
theorem dX6_not0_22 : decode cX6_not0 22 = .ok (.ifCond .ne 5, 3) := by decide +kernel
theorem dX6_not0_25 : decode cX6_not0 25 = .ok (.iconst 0, 1) := by decide +kernel
theorem dX6_not0_26 : decode cX6_not0 26 = .ok (.ireturn, 1) := by decide +kernel
theorem dX6_not0_27 : decode cX6_not0 27 = .ok (.aload_n 0, 1) := by decide +kernel
theorem dX6_not0_28 : decode cX6_not0 28 = .ok (.invokevirtual 314, 3) := by decide +kernel
theorem dX6_not0_31 : decode cX6_not0 31 = .ok (.istore_n 1, 1) := by decide +kernel
theorem dX6_not0_32 : decode cX6_not0 32 = .ok (.aload_n 0, 1) := by decide +kernel
theorem dX6_not0_33 : decode cX6_not0 33 = .ok (.dup, 1) := by decide +kernel
theorem dX6_not0_34 : decode cX6_not0 34 = .ok (.getfield 187, 3) := by decide +kernel
theorem dX6_not0_37 : decode cX6_not0 37 = .ok (.iconst 1, 1) := by decide +kernel
theorem dX6_not0_38 : decode cX6_not0 38 = .ok (.isub, 1) := by decide +kernel
theorem dX6_not0_39 : decode cX6_not0 39 = .ok (.putfield 187, 3) := by decide +kernel
theorem dX6_not0_42 : decode cX6_not0 42 = .ok (.iload_n 1, 1) := by decide +kernel
theorem dX6_not0_43 : decode cX6_not0 43 = .ok (.ifCond .ne 7, 3) := by decide +kernel
theorem dX6_not0_46 : decode cX6_not0 46 = .ok (.iconst 1, 1) := by decide +kernel
theorem dX6_not0_47 : decode cX6_not0 47 = .ok (.goto 4, 3) := by decide +kernel
theorem dX6_not0_50 : decode cX6_not0 50 = .ok (.iconst 0, 1) := by decide +kernel
theorem dX6_not0_51 : decode cX6_not0 51 = .ok (.ireturn, 1) := by decide +kernel
theorem dX6_not0_52 : decode cX6_not0 52 = .ok (.aload_n 0, 1) := by decide +kernel
theorem dX6_not0_53 : decode cX6_not0 53 = .ok (.invokevirtual 329, 3) := by decide +kernel
theorem dX6_not0_56 : decode cX6_not0 56 = .ok (.istore_n 1, 1) := by decide +kernel
theorem dX6_not0_57 : decode cX6_not0 57 = .ok (.aload_n 0, 1) := by decide +kernel
theorem dX6_not0_58 : decode cX6_not0 58 = .ok (.bipush 60, 2) := by decide +kernel
theorem dX6_not0_60 : decode cX6_not0 60 = .ok (.invokevirtual 218, 3) := by decide +kernel
theorem dX6_not0_63 : decode cX6_not0 63 = .ok (.ifCond .ne 14, 3) := by decide +kernel
theorem dX6_not0_66 : decode cX6_not0 66 = .ok (.aload_n 0, 1) := by decide +kernel
theorem dX6_not0_67 : decode cX6_not0 67 = .ok (.bipush 61, 2) := by decide +kernel
theorem dX6_not0_69 : decode cX6_not0 69 = .ok (.invokevirtual 218, 3) := by decide +kernel
theorem dX6_not0_72 : decode cX6_not0 72 = .ok (.ifCond .ne 5, 3) := by decide +kernel
theorem dX6_not0_75 : decode cX6_not0 75 = .ok (.iload_n 1, 1) := by decide +kernel
theorem dX6_not0_76 : decode cX6_not0 76 = .ok (.ireturn, 1) := by decide +kernel
theorem dX6_not0_77 : decode cX6_not0 77 = .ok (.aload_n 0, 1) := by decide +kernel
theorem dX6_not0_78 : decode cX6_not0 78 = .ok (.getfield 172, 3) := by decide +kernel
theorem dX6_not0_81 : decode cX6_not0 81 = .ok (.ldc2_w 240, 3) := by decide +kernel
theorem dX6_not0_84 : decode cX6_not0 84 = .ok (.lcmp, 1) := by decide +kernel
theorem dX6_not0_85 : decode cX6_not0 85 = .ok (.ifCond .ne 7, 3) := by decide +kernel
theorem dX6_not0_88 : decode cX6_not0 88 = .ok (.iconst 1, 1) := by decide +kernel
theorem dX6_not0_89 : decode cX6_not0 89 = .ok (.goto 4, 3) := by decide +kernel
theorem dX6_not0_92 : decode cX6_not0 92 = .ok (.iconst 0, 1) := by decide +kernel
theorem dX6_not0_93 : decode cX6_not0 93 = .ok (.istore_n 2, 1) := by decide +kernel
theorem dX6_not0_94 : decode cX6_not0 94 = .ok (.aload_n 0, 1) := by decide +kernel
theorem dX6_not0_95 : decode cX6_not0 95 = .ok (.invokevirtual 193, 3) := by decide +kernel
theorem dX6_not0_98 : decode cX6_not0 98 = .ok (.aload_n 0, 1) := by decide +kernel
theorem dX6_not0_99 : decode cX6_not0 99 = .ok (.invokevirtual 329, 3) := by decide +kernel
theorem dX6_not0_102 : decode cX6_not0 102 = .ok (.istore_n 3, 1) := by decide +kernel
theorem dX6_not0_103 : decode cX6_not0 103 = .ok (.iload_n 2, 1) := by decide +kernel
theorem dX6_not0_104 : decode cX6_not0 104 = .ok (.ifCond .eq 11, 3) := by decide +kernel
theorem dX6_not0_107 : decode cX6_not0 107 = .ok (.iload_n 1, 1) := by decide +kernel
theorem dX6_not0_108 : decode cX6_not0 108 = .ok (.iload_n 3, 1) := by decide +kernel
theorem dX6_not0_109 : decode cX6_not0 109 = .ok (.if_icmp .ge 15, 3) := by decide +kernel
theorem dX6_not0_112 : decode cX6_not0 112 = .ok (.goto 8, 3) := by decide +kernel
theorem dX6_not0_115 : decode cX6_not0 115 = .ok (.iload_n 1, 1) := by decide +kernel
theorem dX6_not0_116 : decode cX6_not0 116 = .ok (.iload_n 3, 1) := by decide +kernel
theorem dX6_not0_117 : decode cX6_not0 117 = .ok (.if_icmp .ne 7, 3) := by decide +kernel
theorem dX6_not0_120 : decode cX6_not0 120 = .ok (.iconst 1, 1) := by decide +kernel
theorem dX6_not0_121 : decode cX6_not0 121 = .ok (.goto 4, 3) := by decide +kernel
theorem dX6_not0_124 : decode cX6_not0 124 = .ok (.iconst 0, 1) := by decide +kernel
theorem dX6_not0_125 : decode cX6_not0 125 = .ok (.ireturn, 1) := by decide +kernel
set_option maxRecDepth 20000 in
theorem dX6_both0_0 : decode cX6_both0 0 = .ok (.aload_n 0, 1) := by decide +kernel
theorem dX6_both0_1 : decode cX6_both0 1 = .ok (.invokevirtual 332, 3) := by decide +kernel
theorem dX6_both0_4 : decode cX6_both0 4 = .ok (.istore_n 1, 1) := by decide +kernel
theorem dX6_both0_5 : decode cX6_both0 5 = .ok (.aload_n 0, 1) := by decide +kernel
theorem dX6_both0_6 : decode cX6_both0 6 = .ok (.bipush 97, 2) := by decide +kernel
theorem dX6_both0_8 : decode cX6_both0 8 = .ok (.bipush 110, 2) := by decide +kernel
theorem dX6_both0_10 : decode cX6_both0 10 = .ok (.bipush 100, 2) := by decide +kernel
theorem dX6_both0_12 : decode cX6_both0 12 = .ok (.iconst 0, 1) := by decide +kernel
theorem dX6_both0_13 : decode cX6_both0 13 = .ok (.iconst 0, 1) := by decide +kernel
theorem dX6_both0_14 : decode cX6_both0 14 = .ok (.iconst 0, 1) := by decide +kernel
theorem dX6_both0_15 : decode cX6_both0 15 = .ok (.iconst 0, 1) := by decide +kernel
theorem dX6_both0_16 : decode cX6_both0 16 = .ok (.iconst 0, 1) := by decide +kernel
theorem dX6_both0_17 : decode cX6_both0 17 = .ok (.invokevirtual 196, 3) := by decide +kernel
theorem dX6_both0_20 : decode cX6_both0 20 = .ok (.ifCond .eq 29, 3) := by decide +kernel
theorem dX6_both0_23 : decode cX6_both0 23 = .ok (.aload_n 0, 1) := by decide +kernel
theorem dX6_both0_24 : decode cX6_both0 24 = .ok (.invokevirtual 193, 3) := by decide +kernel
theorem dX6_both0_27 : decode cX6_both0 27 = .ok (.aload_n 0, 1) := by decide +kernel
theorem dX6_both0_28 : decode cX6_both0 28 = .ok (.invokevirtual 332, 3) := by decide +kernel
theorem dX6_both0_31 : decode cX6_both0 31 = .ok (.istore_n 2, 1) := by decide +kernel
theorem dX6_both0_32 : decode cX6_both0 32 = .ok (.iload_n 1, 1) := by decide +kernel
theorem dX6_both0_33 : decode cX6_both0 33 = .ok (.ifCond .eq 11, 3) := by decide +kernel
theorem dX6_both0_36 : decode cX6_both0 36 = .ok (.iload_n 2, 1) := by decide +kernel
theorem dX6_both0_37 : decode cX6_both0 37 = .ok (.ifCond .eq 7, 3) := by decide +kernel
theorem dX6_both0_40 : decode cX6_both0 40 = .ok (.iconst 1, 1) := by decide +kernel
theorem dX6_both0_41 : decode cX6_both0 41 = .ok (.goto 4, 3) := by decide +kernel
theorem dX6_both0_44 : decode cX6_both0 44 = .ok (.iconst 0, 1) := by decide +kernel
theorem dX6_both0_45 : decode cX6_both0 45 = .ok (.istore_n 1, 1) := by decide +kernel
theorem dX6_both0_46 : decode cX6_both0 46 = .ok (.goto (-41), 3) := by decide +kernel
theorem dX6_both0_49 : decode cX6_both0 49 = .ok (.iload_n 1, 1) := by decide +kernel
theorem dX6_both0_50 : decode cX6_both0 50 = .ok (.ireturn, 1) := by decide +kernel
set_option maxRecDepth 20000 in
theorem dX6_either0_0 : decode cX6_either0 0 = .ok (.aload_n 0, 1) := by decide +kernel
theorem dX6_either0_1 : decode cX6_either0 1 = .ok (.invokevirtual 335, 3) := by decide +kernel
theorem dX6_either0_4 : decode cX6_either0 4 = .ok (.istore_n 1, 1) := by decide +kernel
theorem dX6_either0_5 : decode cX6_either0 5 = .ok (.aload_n 0, 1) := by decide +kernel
theorem dX6_either0_6 : decode cX6_either0 6 = .ok (.bipush 111, 2) := by decide +kernel
theorem dX6_either0_8 : decode cX6_either0 8 = .ok (.bipush 114, 2) := by decide +kernel
theorem dX6_either0_10 : decode cX6_either0 10 = .ok (.iconst 0, 1) := by decide +kernel
theorem dX6_either0_11 : decode cX6_either0 11 = .ok (.iconst 0, 1) := by decide +kernel
theorem dX6_either0_12 : decode cX6_either0 12 = .ok (.iconst 0, 1) := by decide +kernel
theorem dX6_either0_13 : decode cX6_either0 13 = .ok (.iconst 0, 1) := by decide +kernel
theorem dX6_either0_14 : decode cX6_either0 14 = .ok (.iconst 0, 1) := by decide +kernel
theorem dX6_either0_15 : decode cX6_either0 15 = .ok (.iconst 0, 1) := by decide +kernel
theorem dX6_either0_16 : decode cX6_either0 16 = .ok (.invokevirtual 196, 3) := by decide +kernel
theorem dX6_either0_19 : decode cX6_either0 19 = .ok (.ifCond .eq 29, 3) := by decide +kernel
theorem dX6_either0_22 : decode cX6_either0 22 = .ok (.aload_n 0, 1) := by decide +kernel
theorem dX6_either0_23 : decode cX6_either0 23 = .ok (.invokevirtual 193, 3) := by decide +kernel
theorem dX6_either0_26 : decode cX6_either0 26 = .ok (.aload_n 0, 1) := by decide +kernel
theorem dX6_either0_27 : decode cX6_either0 27 = .ok (.invokevirtual 335, 3) := by decide +kernel
theorem dX6_either0_30 : decode cX6_either0 30 = .ok (.istore_n 2, 1) := by decide +kernel
theorem dX6_either0_31 : decode cX6_either0 31 = .ok (.iload_n 1, 1) := by decide +kernel
theorem dX6_either0_32 : decode cX6_either0 32 = .ok (.ifCond .ne 7, 3) := by decide +kernel
theorem dX6_either0_35 : decode cX6_either0 35 = .ok (.iload_n 2, 1) := by decide +kernel
theorem dX6_either0_36 : decode cX6_either0 36 = .ok (.ifCond .eq 7, 3) := by decide +kernel
theorem dX6_either0_39 : decode cX6_either0 39 = .ok (.iconst 1, 1) := by decide +kernel
theorem dX6_either0_40 : decode cX6_either0 40 = .ok (.goto 4, 3) := by decide +kernel
theorem dX6_either0_43 : decode cX6_either0 43 = .ok (.iconst 0, 1) := by decide +kernel
theorem dX6_either0_44 : decode cX6_either0 44 = .ok (.istore_n 1, 1) := by decide +kernel
theorem dX6_either0_45 : decode cX6_either0 45 = .ok (.goto (-40), 3) := by decide +kernel
theorem dX6_either0_48 : decode cX6_either0 48 = .ok (.iload_n 1, 1) := by decide +kernel
theorem dX6_either0_49 : decode cX6_either0 49 = .ok (.ireturn, 1) := by decide +kernel
set_option maxRecDepth 20000 in
theorem dX6_part_0 : decode cX6_part 0 = .ok (.iload_n 1, 1) := by decide +kernel
theorem dX6_part_1 : decode cX6_part 1 = .ok (.ifCond .ne 7, 3) := by decide +kernel
theorem dX6_part_4 : decode cX6_part 4 = .ok (.aload_n 0, 1) := by decide +kernel
theorem dX6_part_5 : decode cX6_part 5 = .ok (.invokevirtual 190, 3) := by decide +kernel
theorem dX6_part_8 : decode cX6_part 8 = .ok (.aload_n 0, 1) := by decide +kernel
theorem dX6_part_9 : decode cX6_part 9 = .ok (.getfield 177, 3) := by decide +kernel
theorem dX6_part_12 : decode cX6_part 12 = .ok (.ifCond .ne 7, 3) := by decide +kernel
theorem dX6_part_15 : decode cX6_part 15 = .ok (.aload_n 0, 1) := by decide +kernel
theorem dX6_part_16 : decode cX6_part 16 = .ok (.invokevirtual 193, 3) := by decide +kernel
theorem dX6_part_19 : decode cX6_part 19 = .ok (.aload_n 0, 1) := by decide +kernel
theorem dX6_part_20 : decode cX6_part 20 = .ok (.getfield 177, 3) := by decide +kernel
theorem dX6_part_23 : decode cX6_part 23 = .ok (.ifCond .eq 7, 3) := by decide +kernel
theorem dX6_part_26 : decode cX6_part 26 = .ok (.iconst 0, 1) := by decide +kernel
theorem dX6_part_27 : decode cX6_part 27 = .ok (.goto 7, 3) := by decide +kernel
theorem dX6_part_30 : decode cX6_part 30 = .ok (.aload_n 0, 1) := by decide +kernel
theorem dX6_part_31 : decode cX6_part 31 = .ok (.invokevirtual 338, 3) := by decide +kernel
theorem dX6_part_34 : decode cX6_part 34 = .ok (.istore_n 2, 1) := by decide +kernel
theorem dX6_part_35 : decode cX6_part 35 = .ok (.aload_n 0, 1) := by decide +kernel
theorem dX6_part_36 : decode cX6_part 36 = .ok (.bipush 59, 2) := by decide +kernel
theorem dX6_part_38 : decode cX6_part 38 = .ok (.invokevirtual 218, 3) := by decide +kernel
theorem dX6_part_41 : decode cX6_part 41 = .ok (.ifCond .ne 7, 3) := by decide +kernel
theorem dX6_part_44 : decode cX6_part 44 = .ok (.aload_n 0, 1) := by decide +kernel
theorem dX6_part_45 : decode cX6_part 45 = .ok (.invokevirtual 190, 3) := by decide +kernel
theorem dX6_part_48 : decode cX6_part 48 = .ok (.aload_n 0, 1) := by decide +kernel
theorem dX6_part_49 : decode cX6_part 49 = .ok (.getfield 177, 3) := by decide +kernel
theorem dX6_part_52 : decode cX6_part 52 = .ok (.ifCond .ne 7, 3) := by decide +kernel
theorem dX6_part_55 : decode cX6_part 55 = .ok (.aload_n 0, 1) := by decide +kernel
theorem dX6_part_56 : decode cX6_part 56 = .ok (.invokevirtual 193, 3) := by decide +kernel
theorem dX6_part_59 : decode cX6_part 59 = .ok (.iload_n 2, 1) := by decide +kernel
theorem dX6_part_60 : decode cX6_part 60 = .ok (.ireturn, 1) := by decide +kernel
set_option maxRecDepth 20000 in
theorem dX6_read_0 : decode cX6_read 0 = .ok (.aload_n 0, 1) := by decide +kernel
theorem dX6_read_1 : decode cX6_read 1 = .ok (.sipush 160, 3) := by decide +kernel
theorem dX6_read_4 : decode cX6_read 4 = .ok (.iload_n 1, 1) := by decide +kernel
theorem dX6_read_5 : decode cX6_read 5 = .ok (.imul, 1) := by decide +kernel
theorem dX6_read_6 : decode cX6_read 6 = .ok (.putfield 149, 3) := by decide +kernel
theorem dX6_read_9 : decode cX6_read 9 = .ok (.aload_n 0, 1) := by decide +kernel
theorem dX6_read_10 : decode cX6_read 10 = .ok (.aload_n 0, 1) := by decide +kernel
theorem dX6_read_11 : decode cX6_read 11 = .ok (.getfield 17, 3) := by decide +kernel
theorem dX6_read_14 : decode cX6_read 14 = .ok (.iload_n 1, 1) := by decide +kernel
theorem dX6_read_15 : decode cX6_read 15 = .ok (.iaload, 1) := by decide +kernel
theorem dX6_read_16 : decode cX6_read 16 = .ok (.putfield 146, 3) := by decide +kernel
theorem dX6_read_19 : decode cX6_read 19 = .ok (.aload_n 0, 1) := by decide +kernel
theorem dX6_read_20 : decode cX6_read 20 = .ok (.iconst 0, 1) := by decide +kernel
theorem dX6_read_21 : decode cX6_read 21 = .ok (.putfield 152, 3) := by decide +kernel
theorem dX6_read_24 : decode cX6_read 24 = .ok (.aload_n 0, 1) := by decide +kernel
theorem dX6_read_25 : decode cX6_read 25 = .ok (.iconst 0, 1) := by decide +kernel
theorem dX6_read_26 : decode cX6_read 26 = .ok (.putfield 187, 3) := by decide +kernel
theorem dX6_read_29 : decode cX6_read 29 = .ok (.aload_n 0, 1) := by decide +kernel
theorem dX6_read_30 : decode cX6_read 30 = .ok (.iconst 0, 1) := by decide +kernel
theorem dX6_read_31 : decode cX6_read 31 = .ok (.putfield 177, 3) := by decide +kernel
theorem dX6_read_34 : decode cX6_read 34 = .ok (.aload_n 0, 1) := by decide +kernel
theorem dX6_read_35 : decode cX6_read 35 = .ok (.invokevirtual 193, 3) := by decide +kernel
theorem dX6_read_38 : decode cX6_read 38 = .ok (.aload_n 0, 1) := by decide +kernel
theorem dX6_read_39 : decode cX6_read 39 = .ok (.aload_n 0, 1) := by decide +kernel
theorem dX6_read_40 : decode cX6_read 40 = .ok (.bipush 116, 2) := by decide +kernel
theorem dX6_read_42 : decode cX6_read 42 = .ok (.bipush 117, 2) := by decide +kernel
theorem dX6_read_44 : decode cX6_read 44 = .ok (.bipush 114, 2) := by decide +kernel
theorem dX6_read_46 : decode cX6_read 46 = .ok (.bipush 110, 2) := by decide +kernel
theorem dX6_read_48 : decode cX6_read 48 = .ok (.bipush 115, 2) := by decide +kernel
theorem dX6_read_50 : decode cX6_read 50 = .ok (.iconst 0, 1) := by decide +kernel
theorem dX6_read_51 : decode cX6_read 51 = .ok (.iconst 0, 1) := by decide +kernel
theorem dX6_read_52 : decode cX6_read 52 = .ok (.iconst 0, 1) := by decide +kernel
theorem dX6_read_53 : decode cX6_read 53 = .ok (.invokevirtual 196, 3) := by decide +kernel
theorem dX6_read_56 : decode cX6_read 56 = .ok (.invokevirtual 341, 3) := by decide +kernel
theorem dX6_read_59 : decode cX6_read 59 = .ok (.istore_n 3, 1) := by decide +kernel
theorem dX6_read_60 : decode cX6_read 60 = .ok (.aload_n 0, 1) := by decide +kernel
theorem dX6_read_61 : decode cX6_read 61 = .ok (.getfield 177, 3) := by decide +kernel
theorem dX6_read_64 : decode cX6_read 64 = .ok (.ifCond .eq 7, 3) := by decide +kernel
theorem dX6_read_67 : decode cX6_read 67 = .ok (.iconst 0, 1) := by decide +kernel
theorem dX6_read_68 : decode cX6_read 68 = .ok (.goto 24, 3) := by decide +kernel
theorem dX6_read_71 : decode cX6_read 71 = .ok (.aload_n 0, 1) := by decide +kernel
theorem dX6_read_72 : decode cX6_read 72 = .ok (.aload_n 0, 1) := by decide +kernel
theorem dX6_read_73 : decode cX6_read 73 = .ok (.bipush 116, 2) := by decide +kernel
theorem dX6_read_75 : decode cX6_read 75 = .ok (.bipush 105, 2) := by decide +kernel
theorem dX6_read_77 : decode cX6_read 77 = .ok (.bipush 114, 2) := by decide +kernel
theorem dX6_read_79 : decode cX6_read 79 = .ok (.bipush 101, 2) := by decide +kernel
theorem dX6_read_81 : decode cX6_read 81 = .ok (.bipush 115, 2) := by decide +kernel
theorem dX6_read_83 : decode cX6_read 83 = .ok (.iconst 0, 1) := by decide +kernel
theorem dX6_read_84 : decode cX6_read 84 = .ok (.iconst 0, 1) := by decide +kernel
theorem dX6_read_85 : decode cX6_read 85 = .ok (.iconst 0, 1) := by decide +kernel
theorem dX6_read_86 : decode cX6_read 86 = .ok (.invokevirtual 196, 3) := by decide +kernel
theorem dX6_read_89 : decode cX6_read 89 = .ok (.invokevirtual 341, 3) := by decide +kernel
theorem dX6_read_92 : decode cX6_read 92 = .ok (.istore 4, 2) := by decide +kernel
theorem dX6_read_94 : decode cX6_read 94 = .ok (.aload_n 0, 1) := by decide +kernel
theorem dX6_read_95 : decode cX6_read 95 = .ok (.getfield 177, 3) := by decide +kernel
theorem dX6_read_98 : decode cX6_read 98 = .ok (.ifCond .eq 7, 3) := by decide +kernel
theorem dX6_read_101 : decode cX6_read 101 = .ok (.iconst 0, 1) := by decide +kernel
theorem dX6_read_102 : decode cX6_read 102 = .ok (.goto 24, 3) := by decide +kernel
theorem dX6_read_105 : decode cX6_read 105 = .ok (.aload_n 0, 1) := by decide +kernel
theorem dX6_read_106 : decode cX6_read 106 = .ok (.aload_n 0, 1) := by decide +kernel
theorem dX6_read_107 : decode cX6_read 107 = .ok (.bipush 114, 2) := by decide +kernel
theorem dX6_read_109 : decode cX6_read 109 = .ok (.bipush 101, 2) := by decide +kernel
theorem dX6_read_111 : decode cX6_read 111 = .ok (.bipush 115, 2) := by decide +kernel
theorem dX6_read_113 : decode cX6_read 113 = .ok (.bipush 116, 2) := by decide +kernel
theorem dX6_read_115 : decode cX6_read 115 = .ok (.bipush 115, 2) := by decide +kernel
theorem dX6_read_117 : decode cX6_read 117 = .ok (.iconst 0, 1) := by decide +kernel
theorem dX6_read_118 : decode cX6_read 118 = .ok (.iconst 0, 1) := by decide +kernel
theorem dX6_read_119 : decode cX6_read 119 = .ok (.iconst 0, 1) := by decide +kernel
theorem dX6_read_120 : decode cX6_read 120 = .ok (.invokevirtual 196, 3) := by decide +kernel
theorem dX6_read_123 : decode cX6_read 123 = .ok (.invokevirtual 341, 3) := by decide +kernel
theorem dX6_read_126 : decode cX6_read 126 = .ok (.istore 5, 2) := by decide +kernel
theorem dX6_read_128 : decode cX6_read 128 = .ok (.aload_n 0, 1) := by decide +kernel
theorem dX6_read_129 : decode cX6_read 129 = .ok (.getfield 177, 3) := by decide +kernel
theorem dX6_read_132 : decode cX6_read 132 = .ok (.ifCond .ne 14, 3) := by decide +kernel
theorem dX6_read_135 : decode cX6_read 135 = .ok (.aload_n 0, 1) := by decide +kernel
theorem dX6_read_136 : decode cX6_read 136 = .ok (.getfield 161, 3) := by decide +kernel
theorem dX6_read_139 : decode cX6_read 139 = .ok (.ifCond .eq 7, 3) := by decide +kernel
theorem dX6_read_142 : decode cX6_read 142 = .ok (.aload_n 0, 1) := by decide +kernel
theorem dX6_read_143 : decode cX6_read 143 = .ok (.invokevirtual 190, 3) := by decide +kernel
theorem dX6_read_146 : decode cX6_read 146 = .ok (.iload_n 2, 1) := by decide +kernel
theorem dX6_read_147 : decode cX6_read 147 = .ok (.ifCond .ne 7, 3) := by decide +kernel
theorem dX6_read_150 : decode cX6_read 150 = .ok (.iload_n 3, 1) := by decide +kernel
theorem dX6_read_151 : decode cX6_read 151 = .ok (.goto 15, 3) := by decide +kernel
theorem dX6_read_154 : decode cX6_read 154 = .ok (.iload_n 2, 1) := by decide +kernel
theorem dX6_read_155 : decode cX6_read 155 = .ok (.iconst 1, 1) := by decide +kernel
theorem dX6_read_156 : decode cX6_read 156 = .ok (.if_icmp .ne 8, 3) := by decide +kernel
theorem dX6_read_159 : decode cX6_read 159 = .ok (.iload 4, 2) := by decide +kernel
theorem dX6_read_161 : decode cX6_read 161 = .ok (.goto 5, 3) := by decide +kernel
theorem dX6_read_164 : decode cX6_read 164 = .ok (.iload 5, 2) := by decide +kernel
theorem dX6_read_166 : decode cX6_read 166 = .ok (.ireturn, 1) := by decide +kernel
set_option maxRecDepth 20000 in
theorem dX6_text_0 : decode cX6_text 0 = .ok (.aload_n 0, 1) := by decide +kernel
theorem dX6_text_1 : decode cX6_text 1 = .ok (.getfield 55, 3) := by decide +kernel
theorem dX6_text_4 : decode cX6_text 4 = .ok (.bipush 6, 2) := by decide +kernel
theorem dX6_text_6 : decode cX6_text 6 = .ok (.if_icmp .ne 6, 3) := by decide +kernel
theorem dX6_text_9 : decode cX6_text 9 = .ok (.bipush (-4), 2) := by decide +kernel
theorem dX6_text_11 : decode cX6_text 11 = .ok (.ireturn, 1) := by decide +kernel
theorem dX6_text_12 : decode cX6_text 12 = .ok (.iconst 0, 1) := by decide +kernel
theorem dX6_text_13 : decode cX6_text 13 = .ok (.istore_n 1, 1) := by decide +kernel
theorem dX6_text_14 : decode cX6_text 14 = .ok (.iload_n 1, 1) := by decide +kernel
theorem dX6_text_15 : decode cX6_text 15 = .ok (.aload_n 0, 1) := by decide +kernel
theorem dX6_text_16 : decode cX6_text 16 = .ok (.getfield 143, 3) := by decide +kernel
theorem dX6_text_19 : decode cX6_text 19 = .ok (.if_icmp .ge 30, 3) := by decide +kernel
theorem dX6_text_22 : decode cX6_text 22 = .ok (.aload_n 0, 1) := by decide +kernel
theorem dX6_text_23 : decode cX6_text 23 = .ok (.getfield 13, 3) := by decide +kernel
theorem dX6_text_26 : decode cX6_text 26 = .ok (.sipush 160, 3) := by decide +kernel
theorem dX6_text_29 : decode cX6_text 29 = .ok (.aload_n 0, 1) := by decide +kernel
theorem dX6_text_30 : decode cX6_text 30 = .ok (.getfield 55, 3) := by decide +kernel
theorem dX6_text_33 : decode cX6_text 33 = .ok (.imul, 1) := by decide +kernel
theorem dX6_text_34 : decode cX6_text 34 = .ok (.iload_n 1, 1) := by decide +kernel
theorem dX6_text_35 : decode cX6_text 35 = .ok (.iadd, 1) := by decide +kernel
theorem dX6_text_36 : decode cX6_text 36 = .ok (.aload_n 0, 1) := by decide +kernel
theorem dX6_text_37 : decode cX6_text 37 = .ok (.getfield 20, 3) := by decide +kernel
theorem dX6_text_40 : decode cX6_text 40 = .ok (.iload_n 1, 1) := by decide +kernel
theorem dX6_text_41 : decode cX6_text 41 = .ok (.iaload, 1) := by decide +kernel
theorem dX6_text_42 : decode cX6_text 42 = .ok (.iastore, 1) := by decide +kernel
theorem dX6_text_43 : decode cX6_text 43 = .ok (.iinc 1 1, 3) := by decide +kernel
theorem dX6_text_46 : decode cX6_text 46 = .ok (.goto (-32), 3) := by decide +kernel
theorem dX6_text_49 : decode cX6_text 49 = .ok (.aload_n 0, 1) := by decide +kernel
theorem dX6_text_50 : decode cX6_text 50 = .ok (.getfield 17, 3) := by decide +kernel
theorem dX6_text_53 : decode cX6_text 53 = .ok (.aload_n 0, 1) := by decide +kernel
theorem dX6_text_54 : decode cX6_text 54 = .ok (.getfield 55, 3) := by decide +kernel
theorem dX6_text_57 : decode cX6_text 57 = .ok (.aload_n 0, 1) := by decide +kernel
theorem dX6_text_58 : decode cX6_text 58 = .ok (.getfield 143, 3) := by decide +kernel
theorem dX6_text_61 : decode cX6_text 61 = .ok (.iastore, 1) := by decide +kernel
theorem dX6_text_62 : decode cX6_text 62 = .ok (.aload_n 0, 1) := by decide +kernel
theorem dX6_text_63 : decode cX6_text 63 = .ok (.iconst 0, 1) := by decide +kernel
theorem dX6_text_64 : decode cX6_text 64 = .ok (.putfield 143, 3) := by decide +kernel
theorem dX6_text_67 : decode cX6_text 67 = .ok (.aload_n 0, 1) := by decide +kernel
theorem dX6_text_68 : decode cX6_text 68 = .ok (.aload_n 0, 1) := by decide +kernel
theorem dX6_text_69 : decode cX6_text 69 = .ok (.getfield 55, 3) := by decide +kernel
theorem dX6_text_72 : decode cX6_text 72 = .ok (.iconst 0, 1) := by decide +kernel
theorem dX6_text_73 : decode cX6_text 73 = .ok (.invokevirtual 345, 3) := by decide +kernel
theorem dX6_text_76 : decode cX6_text 76 = .ok (.istore_n 1, 1) := by decide +kernel
theorem dX6_text_77 : decode cX6_text 77 = .ok (.aload_n 0, 1) := by decide +kernel
theorem dX6_text_78 : decode cX6_text 78 = .ok (.getfield 177, 3) := by decide +kernel
theorem dX6_text_81 : decode cX6_text 81 = .ok (.ifCond .eq 11, 3) := by decide +kernel
theorem dX6_text_84 : decode cX6_text 84 = .ok (.bipush (-100), 2) := by decide +kernel
theorem dX6_text_86 : decode cX6_text 86 = .ok (.aload_n 0, 1) := by decide +kernel
theorem dX6_text_87 : decode cX6_text 87 = .ok (.getfield 181, 3) := by decide +kernel
theorem dX6_text_90 : decode cX6_text 90 = .ok (.isub, 1) := by decide +kernel
theorem dX6_text_91 : decode cX6_text 91 = .ok (.ireturn, 1) := by decide +kernel
theorem dX6_text_92 : decode cX6_text 92 = .ok (.aload_n 0, 1) := by decide +kernel
theorem dX6_text_93 : decode cX6_text 93 = .ok (.dup, 1) := by decide +kernel
theorem dX6_text_94 : decode cX6_text 94 = .ok (.getfield 55, 3) := by decide +kernel
theorem dX6_text_97 : decode cX6_text 97 = .ok (.iconst 1, 1) := by decide +kernel
theorem dX6_text_98 : decode cX6_text 98 = .ok (.iadd, 1) := by decide +kernel
theorem dX6_text_99 : decode cX6_text 99 = .ok (.putfield 55, 3) := by decide +kernel
theorem dX6_text_102 : decode cX6_text 102 = .ok (.aload_n 0, 1) := by decide +kernel
theorem dX6_text_103 : decode cX6_text 103 = .ok (.getfield 55, 3) := by decide +kernel
theorem dX6_text_106 : decode cX6_text 106 = .ok (.iconst 1, 1) := by decide +kernel
theorem dX6_text_107 : decode cX6_text 107 = .ok (.isub, 1) := by decide +kernel
theorem dX6_text_108 : decode cX6_text 108 = .ok (.ireturn, 1) := by decide +kernel
set_option maxRecDepth 20000 in
theorem dX6_force_0 : decode cX6_force 0 = .ok (.iload_n 1, 1) := by decide +kernel
theorem dX6_force_1 : decode cX6_force 1 = .ok (.i2l, 1) := by decide +kernel
theorem dX6_force_2 : decode cX6_force 2 = .ok (.lconst 0, 1) := by decide +kernel
theorem dX6_force_3 : decode cX6_force 3 = .ok (.aload_n 0, 1) := by decide +kernel
theorem dX6_force_4 : decode cX6_force 4 = .ok (.getfield 55, 3) := by decide +kernel
theorem dX6_force_7 : decode cX6_force 7 = .ok (.iconst 1, 1) := by decide +kernel
theorem dX6_force_8 : decode cX6_force 8 = .ok (.isub, 1) := by decide +kernel
theorem dX6_force_9 : decode cX6_force 9 = .ok (.i2l, 1) := by decide +kernel
theorem dX6_force_10 : decode cX6_force 10 = .ok (.invokestatic 61, 3) := by decide +kernel
theorem dX6_force_13 : decode cX6_force 13 = .ok (.ifCond .ne 6, 3) := by decide +kernel
theorem dX6_force_16 : decode cX6_force 16 = .ok (.bipush (-2), 2) := by decide +kernel
theorem dX6_force_18 : decode cX6_force 18 = .ok (.ireturn, 1) := by decide +kernel
theorem dX6_force_19 : decode cX6_force 19 = .ok (.aload_n 0, 1) := by decide +kernel
theorem dX6_force_20 : decode cX6_force 20 = .ok (.getfield 111, 3) := by decide +kernel
theorem dX6_force_23 : decode cX6_force 23 = .ok (.istore_n 2, 1) := by decide +kernel
theorem dX6_force_24 : decode cX6_force 24 = .ok (.aload_n 0, 1) := by decide +kernel
theorem dX6_force_25 : decode cX6_force 25 = .ok (.iload_n 1, 1) := by decide +kernel
theorem dX6_force_26 : decode cX6_force 26 = .ok (.putfield 111, 3) := by decide +kernel
theorem dX6_force_29 : decode cX6_force 29 = .ok (.iload_n 2, 1) := by decide +kernel
theorem dX6_force_30 : decode cX6_force 30 = .ok (.ireturn, 1) := by decide +kernel
set_option maxRecDepth 20000 in
theorem dX6_says_0 : decode cX6_says 0 = .ok (.aload_n 0, 1) := by decide +kernel
theorem dX6_says_1 : decode cX6_says 1 = .ok (.aload_n 0, 1) := by decide +kernel
theorem dX6_says_2 : decode cX6_says 2 = .ok (.getfield 23, 3) := by decide +kernel
theorem dX6_says_5 : decode cX6_says 5 = .ok (.iconst 4, 1) := by decide +kernel
theorem dX6_says_6 : decode cX6_says 6 = .ok (.iload_n 2, 1) := by decide +kernel
theorem dX6_says_7 : decode cX6_says 7 = .ok (.imul, 1) := by decide +kernel
theorem dX6_says_8 : decode cX6_says 8 = .ok (.iconst 2, 1) := by decide +kernel
theorem dX6_says_9 : decode cX6_says 9 = .ok (.iadd, 1) := by decide +kernel
theorem dX6_says_10 : decode cX6_says 10 = .ok (.iaload, 1) := by decide +kernel
theorem dX6_says_11 : decode cX6_says 11 = .ok (.putfield 200, 3) := by decide +kernel
theorem dX6_says_14 : decode cX6_says 14 = .ok (.aload_n 0, 1) := by decide +kernel
theorem dX6_says_15 : decode cX6_says 15 = .ok (.aload_n 0, 1) := by decide +kernel
theorem dX6_says_16 : decode cX6_says 16 = .ok (.iload_n 2, 1) := by decide +kernel
theorem dX6_says_17 : decode cX6_says 17 = .ok (.invokevirtual 130, 3) := by decide +kernel
theorem dX6_says_20 : decode cX6_says 20 = .ok (.bipush 8, 2) := by decide +kernel
theorem dX6_says_22 : decode cX6_says 22 = .ok (.irem, 1) := by decide +kernel
theorem dX6_says_23 : decode cX6_says 23 = .ok (.putfield 203, 3) := by decide +kernel
theorem dX6_says_26 : decode cX6_says 26 = .ok (.aload_n 0, 1) := by decide +kernel
theorem dX6_says_27 : decode cX6_says 27 = .ok (.aload_n 0, 1) := by decide +kernel
theorem dX6_says_28 : decode cX6_says 28 = .ok (.iload_n 2, 1) := by decide +kernel
theorem dX6_says_29 : decode cX6_says 29 = .ok (.invokevirtual 130, 3) := by decide +kernel
theorem dX6_says_32 : decode cX6_says 32 = .ok (.bipush 8, 2) := by decide +kernel
theorem dX6_says_34 : decode cX6_says 34 = .ok (.idiv, 1) := by decide +kernel
theorem dX6_says_35 : decode cX6_says 35 = .ok (.putfield 206, 3) := by decide +kernel
theorem dX6_says_38 : decode cX6_says 38 = .ok (.aload_n 0, 1) := by decide +kernel
theorem dX6_says_39 : decode cX6_says 39 = .ok (.aload_n 0, 1) := by decide +kernel
theorem dX6_says_40 : decode cX6_says 40 = .ok (.getfield 23, 3) := by decide +kernel
theorem dX6_says_43 : decode cX6_says 43 = .ok (.iconst 4, 1) := by decide +kernel
theorem dX6_says_44 : decode cX6_says 44 = .ok (.iload_n 2, 1) := by decide +kernel
theorem dX6_says_45 : decode cX6_says 45 = .ok (.imul, 1) := by decide +kernel
theorem dX6_says_46 : decode cX6_says 46 = .ok (.iaload, 1) := by decide +kernel
theorem dX6_says_47 : decode cX6_says 47 = .ok (.putfield 209, 3) := by decide +kernel
theorem dX6_says_50 : decode cX6_says 50 = .ok (.aload_n 0, 1) := by decide +kernel
theorem dX6_says_51 : decode cX6_says 51 = .ok (.aload_n 0, 1) := by decide +kernel
theorem dX6_says_52 : decode cX6_says 52 = .ok (.getfield 103, 3) := by decide +kernel
theorem dX6_says_55 : decode cX6_says 55 = .ok (.putfield 212, 3) := by decide +kernel
theorem dX6_says_58 : decode cX6_says 58 = .ok (.aload_n 0, 1) := by decide +kernel
theorem dX6_says_59 : decode cX6_says 59 = .ok (.aload_n 0, 1) := by decide +kernel
theorem dX6_says_60 : decode cX6_says 60 = .ok (.getfield 87, 3) := by decide +kernel
theorem dX6_says_63 : decode cX6_says 63 = .ok (.invokestatic 348, 3) := by decide +kernel
theorem dX6_says_66 : decode cX6_says 66 = .ok (.putfield 215, 3) := by decide +kernel
theorem dX6_says_69 : decode cX6_says 69 = .ok (.aload_n 0, 1) := by decide +kernel
theorem dX6_says_70 : decode cX6_says 70 = .ok (.aload_n 0, 1) := by decide +kernel
theorem dX6_says_71 : decode cX6_says 71 = .ok (.getfield 111, 3) := by decide +kernel
theorem dX6_says_74 : decode cX6_says 74 = .ok (.iload_n 1, 1) := by decide +kernel
theorem dX6_says_75 : decode cX6_says 75 = .ok (.invokevirtual 345, 3) := by decide +kernel
theorem dX6_says_78 : decode cX6_says 78 = .ok (.iload_n 1, 1) := by decide +kernel
theorem dX6_says_79 : decode cX6_says 79 = .ok (.ifCond .ne 8, 3) := by decide +kernel
theorem dX6_says_82 : decode cX6_says 82 = .ok (.bipush (-99), 2) := by decide +kernel
theorem dX6_says_84 : decode cX6_says 84 = .ok (.goto 4, 3) := by decide +kernel
theorem dX6_says_87 : decode cX6_says 87 = .ok (.iconst 0, 1) := by decide +kernel
theorem dX6_says_88 : decode cX6_says 88 = .ok (.bipush 99, 2) := by decide +kernel
theorem dX6_says_90 : decode cX6_says 90 = .ok (.invokestatic 352, 3) := by decide +kernel
theorem dX6_says_93 : decode cX6_says 93 = .ok (.ireturn, 1) := by decide +kernel
set_option maxRecDepth 20000 in
theorem dX6_turnOf_0 : decode cX6_turnOf 0 = .ok (.aload_n 0, 1) := by decide +kernel
theorem dX6_turnOf_1 : decode cX6_turnOf 1 = .ok (.iconst 0, 1) := by decide +kernel
theorem dX6_turnOf_2 : decode cX6_turnOf 2 = .ok (.iload_n 1, 1) := by decide +kernel
theorem dX6_turnOf_3 : decode cX6_turnOf 3 = .ok (.invokevirtual 356, 3) := by decide +kernel
theorem dX6_turnOf_6 : decode cX6_turnOf 6 = .ok (.bipush 8, 2) := by decide +kernel
theorem dX6_turnOf_8 : decode cX6_turnOf 8 = .ok (.irem, 1) := by decide +kernel
theorem dX6_turnOf_9 : decode cX6_turnOf 9 = .ok (.istore_n 2, 1) := by decide +kernel
theorem dX6_turnOf_10 : decode cX6_turnOf 10 = .ok (.iload_n 2, 1) := by decide +kernel
theorem dX6_turnOf_11 : decode cX6_turnOf 11 = .ok (.ifCond .ge 10, 3) := by decide +kernel
theorem dX6_turnOf_14 : decode cX6_turnOf 14 = .ok (.iload_n 2, 1) := by decide +kernel
theorem dX6_turnOf_15 : decode cX6_turnOf 15 = .ok (.bipush 8, 2) := by decide +kernel
theorem dX6_turnOf_17 : decode cX6_turnOf 17 = .ok (.iadd, 1) := by decide +kernel
theorem dX6_turnOf_18 : decode cX6_turnOf 18 = .ok (.goto 4, 3) := by decide +kernel
theorem dX6_turnOf_21 : decode cX6_turnOf 21 = .ok (.iload_n 2, 1) := by decide +kernel
theorem dX6_turnOf_22 : decode cX6_turnOf 22 = .ok (.ireturn, 1) := by decide +kernel
set_option maxRecDepth 20000 in
theorem dX6_tiresOf_0 : decode cX6_tiresOf 0 = .ok (.aload_n 0, 1) := by decide +kernel
theorem dX6_tiresOf_1 : decode cX6_tiresOf 1 = .ok (.getfield 23, 3) := by decide +kernel
theorem dX6_tiresOf_4 : decode cX6_tiresOf 4 = .ok (.iconst 4, 1) := by decide +kernel
theorem dX6_tiresOf_5 : decode cX6_tiresOf 5 = .ok (.iload_n 1, 1) := by decide +kernel
theorem dX6_tiresOf_6 : decode cX6_tiresOf 6 = .ok (.imul, 1) := by decide +kernel
theorem dX6_tiresOf_7 : decode cX6_tiresOf 7 = .ok (.iconst 3, 1) := by decide +kernel
theorem dX6_tiresOf_8 : decode cX6_tiresOf 8 = .ok (.iadd, 1) := by decide +kernel
theorem dX6_tiresOf_9 : decode cX6_tiresOf 9 = .ok (.iaload, 1) := by decide +kernel
theorem dX6_tiresOf_10 : decode cX6_tiresOf 10 = .ok (.istore_n 2, 1) := by decide +kernel
theorem dX6_tiresOf_11 : decode cX6_tiresOf 11 = .ok (.aload_n 0, 1) := by decide +kernel
theorem dX6_tiresOf_12 : decode cX6_tiresOf 12 = .ok (.iconst 1, 1) := by decide +kernel
theorem dX6_tiresOf_13 : decode cX6_tiresOf 13 = .ok (.iload_n 1, 1) := by decide +kernel
theorem dX6_tiresOf_14 : decode cX6_tiresOf 14 = .ok (.invokevirtual 356, 3) := by decide +kernel
theorem dX6_tiresOf_17 : decode cX6_tiresOf 17 = .ok (.istore_n 3, 1) := by decide +kernel
theorem dX6_tiresOf_18 : decode cX6_tiresOf 18 = .ok (.iload_n 2, 1) := by decide +kernel
theorem dX6_tiresOf_19 : decode cX6_tiresOf 19 = .ok (.iconst 1, 1) := by decide +kernel
theorem dX6_tiresOf_20 : decode cX6_tiresOf 20 = .ok (.if_icmp .ne 9, 3) := by decide +kernel
theorem dX6_tiresOf_23 : decode cX6_tiresOf 23 = .ok (.iload_n 3, 1) := by decide +kernel
theorem dX6_tiresOf_24 : decode cX6_tiresOf 24 = .ok (.iconst 2, 1) := by decide +kernel
theorem dX6_tiresOf_25 : decode cX6_tiresOf 25 = .ok (.idiv, 1) := by decide +kernel
theorem dX6_tiresOf_26 : decode cX6_tiresOf 26 = .ok (.goto 60, 3) := by decide +kernel
theorem dX6_tiresOf_29 : decode cX6_tiresOf 29 = .ok (.iload_n 2, 1) := by decide +kernel
theorem dX6_tiresOf_30 : decode cX6_tiresOf 30 = .ok (.iconst 2, 1) := by decide +kernel
theorem dX6_tiresOf_31 : decode cX6_tiresOf 31 = .ok (.if_icmp .ne 9, 3) := by decide +kernel
theorem dX6_tiresOf_34 : decode cX6_tiresOf 34 = .ok (.iload_n 3, 1) := by decide +kernel
theorem dX6_tiresOf_35 : decode cX6_tiresOf 35 = .ok (.iconst 1, 1) := by decide +kernel
theorem dX6_tiresOf_36 : decode cX6_tiresOf 36 = .ok (.iadd, 1) := by decide +kernel
theorem dX6_tiresOf_37 : decode cX6_tiresOf 37 = .ok (.goto 49, 3) := by decide +kernel
theorem dX6_tiresOf_40 : decode cX6_tiresOf 40 = .ok (.iload_n 2, 1) := by decide +kernel
theorem dX6_tiresOf_41 : decode cX6_tiresOf 41 = .ok (.iconst 3, 1) := by decide +kernel
theorem dX6_tiresOf_42 : decode cX6_tiresOf 42 = .ok (.if_icmp .ne 18, 3) := by decide +kernel
theorem dX6_tiresOf_45 : decode cX6_tiresOf 45 = .ok (.iload_n 3, 1) := by decide +kernel
theorem dX6_tiresOf_46 : decode cX6_tiresOf 46 = .ok (.iconst 2, 1) := by decide +kernel
theorem dX6_tiresOf_47 : decode cX6_tiresOf 47 = .ok (.idiv, 1) := by decide +kernel
theorem dX6_tiresOf_48 : decode cX6_tiresOf 48 = .ok (.aload_n 0, 1) := by decide +kernel
theorem dX6_tiresOf_49 : decode cX6_tiresOf 49 = .ok (.getfield 23, 3) := by decide +kernel
theorem dX6_tiresOf_52 : decode cX6_tiresOf 52 = .ok (.iconst 4, 1) := by decide +kernel
theorem dX6_tiresOf_53 : decode cX6_tiresOf 53 = .ok (.iload_n 1, 1) := by decide +kernel
theorem dX6_tiresOf_54 : decode cX6_tiresOf 54 = .ok (.imul, 1) := by decide +kernel
theorem dX6_tiresOf_55 : decode cX6_tiresOf 55 = .ok (.iaload, 1) := by decide +kernel
theorem dX6_tiresOf_56 : decode cX6_tiresOf 56 = .ok (.iadd, 1) := by decide +kernel
theorem dX6_tiresOf_57 : decode cX6_tiresOf 57 = .ok (.goto 29, 3) := by decide +kernel
theorem dX6_tiresOf_60 : decode cX6_tiresOf 60 = .ok (.iload_n 2, 1) := by decide +kernel
theorem dX6_tiresOf_61 : decode cX6_tiresOf 61 = .ok (.iconst 4, 1) := by decide +kernel
theorem dX6_tiresOf_62 : decode cX6_tiresOf 62 = .ok (.if_icmp .ne 11, 3) := by decide +kernel
theorem dX6_tiresOf_65 : decode cX6_tiresOf 65 = .ok (.iconst 2, 1) := by decide +kernel
theorem dX6_tiresOf_66 : decode cX6_tiresOf 66 = .ok (.iload_n 3, 1) := by decide +kernel
theorem dX6_tiresOf_67 : decode cX6_tiresOf 67 = .ok (.iconst 1, 1) := by decide +kernel
theorem dX6_tiresOf_68 : decode cX6_tiresOf 68 = .ok (.iadd, 1) := by decide +kernel
theorem dX6_tiresOf_69 : decode cX6_tiresOf 69 = .ok (.imul, 1) := by decide +kernel
theorem dX6_tiresOf_70 : decode cX6_tiresOf 70 = .ok (.goto 16, 3) := by decide +kernel
theorem dX6_tiresOf_73 : decode cX6_tiresOf 73 = .ok (.iload_n 2, 1) := by decide +kernel
theorem dX6_tiresOf_74 : decode cX6_tiresOf 74 = .ok (.iconst 5, 1) := by decide +kernel
theorem dX6_tiresOf_75 : decode cX6_tiresOf 75 = .ok (.if_icmp .ne 10, 3) := by decide +kernel
theorem dX6_tiresOf_78 : decode cX6_tiresOf 78 = .ok (.iload_n 3, 1) := by decide +kernel
theorem dX6_tiresOf_79 : decode cX6_tiresOf 79 = .ok (.bipush 10, 2) := by decide +kernel
theorem dX6_tiresOf_81 : decode cX6_tiresOf 81 = .ok (.iadd, 1) := by decide +kernel
theorem dX6_tiresOf_82 : decode cX6_tiresOf 82 = .ok (.goto 4, 3) := by decide +kernel
theorem dX6_tiresOf_85 : decode cX6_tiresOf 85 = .ok (.iload_n 3, 1) := by decide +kernel
theorem dX6_tiresOf_86 : decode cX6_tiresOf 86 = .ok (.iconst 0, 1) := by decide +kernel
theorem dX6_tiresOf_87 : decode cX6_tiresOf 87 = .ok (.bipush 99, 2) := by decide +kernel
theorem dX6_tiresOf_89 : decode cX6_tiresOf 89 = .ok (.invokestatic 352, 3) := by decide +kernel
theorem dX6_tiresOf_92 : decode cX6_tiresOf 92 = .ok (.ireturn, 1) := by decide +kernel
set_option maxRecDepth 20000 in
theorem dX6_restsOf_0 : decode cX6_restsOf 0 = .ok (.aload_n 0, 1) := by decide +kernel
theorem dX6_restsOf_1 : decode cX6_restsOf 1 = .ok (.getfield 23, 3) := by decide +kernel
theorem dX6_restsOf_4 : decode cX6_restsOf 4 = .ok (.iconst 4, 1) := by decide +kernel
theorem dX6_restsOf_5 : decode cX6_restsOf 5 = .ok (.iload_n 1, 1) := by decide +kernel
theorem dX6_restsOf_6 : decode cX6_restsOf 6 = .ok (.imul, 1) := by decide +kernel
theorem dX6_restsOf_7 : decode cX6_restsOf 7 = .ok (.iconst 3, 1) := by decide +kernel
theorem dX6_restsOf_8 : decode cX6_restsOf 8 = .ok (.iadd, 1) := by decide +kernel
theorem dX6_restsOf_9 : decode cX6_restsOf 9 = .ok (.iaload, 1) := by decide +kernel
theorem dX6_restsOf_10 : decode cX6_restsOf 10 = .ok (.istore_n 2, 1) := by decide +kernel
theorem dX6_restsOf_11 : decode cX6_restsOf 11 = .ok (.iload_n 2, 1) := by decide +kernel
theorem dX6_restsOf_12 : decode cX6_restsOf 12 = .ok (.iconst 2, 1) := by decide +kernel
theorem dX6_restsOf_13 : decode cX6_restsOf 13 = .ok (.if_icmp .eq 8, 3) := by decide +kernel
theorem dX6_restsOf_16 : decode cX6_restsOf 16 = .ok (.iload_n 2, 1) := by decide +kernel
theorem dX6_restsOf_17 : decode cX6_restsOf 17 = .ok (.iconst 4, 1) := by decide +kernel
theorem dX6_restsOf_18 : decode cX6_restsOf 18 = .ok (.if_icmp .ne 21, 3) := by decide +kernel
theorem dX6_restsOf_21 : decode cX6_restsOf 21 = .ok (.iload_n 2, 1) := by decide +kernel
theorem dX6_restsOf_22 : decode cX6_restsOf 22 = .ok (.iconst 4, 1) := by decide +kernel
theorem dX6_restsOf_23 : decode cX6_restsOf 23 = .ok (.if_icmp .ne 14, 3) := by decide +kernel
theorem dX6_restsOf_26 : decode cX6_restsOf 26 = .ok (.aload_n 0, 1) := by decide +kernel
theorem dX6_restsOf_27 : decode cX6_restsOf 27 = .ok (.getfield 23, 3) := by decide +kernel
theorem dX6_restsOf_30 : decode cX6_restsOf 30 = .ok (.iconst 4, 1) := by decide +kernel
theorem dX6_restsOf_31 : decode cX6_restsOf 31 = .ok (.iload_n 1, 1) := by decide +kernel
theorem dX6_restsOf_32 : decode cX6_restsOf 32 = .ok (.imul, 1) := by decide +kernel
theorem dX6_restsOf_33 : decode cX6_restsOf 33 = .ok (.iaload, 1) := by decide +kernel
theorem dX6_restsOf_34 : decode cX6_restsOf 34 = .ok (.goto 4, 3) := by decide +kernel
theorem dX6_restsOf_37 : decode cX6_restsOf 37 = .ok (.iconst 0, 1) := by decide +kernel
theorem dX6_restsOf_38 : decode cX6_restsOf 38 = .ok (.ireturn, 1) := by decide +kernel
theorem dX6_restsOf_39 : decode cX6_restsOf 39 = .ok (.aload_n 0, 1) := by decide +kernel
theorem dX6_restsOf_40 : decode cX6_restsOf 40 = .ok (.iconst 2, 1) := by decide +kernel
theorem dX6_restsOf_41 : decode cX6_restsOf 41 = .ok (.iload_n 1, 1) := by decide +kernel
theorem dX6_restsOf_42 : decode cX6_restsOf 42 = .ok (.invokevirtual 356, 3) := by decide +kernel
theorem dX6_restsOf_45 : decode cX6_restsOf 45 = .ok (.istore_n 3, 1) := by decide +kernel
theorem dX6_restsOf_46 : decode cX6_restsOf 46 = .ok (.iload_n 2, 1) := by decide +kernel
theorem dX6_restsOf_47 : decode cX6_restsOf 47 = .ok (.iconst 3, 1) := by decide +kernel
theorem dX6_restsOf_48 : decode cX6_restsOf 48 = .ok (.if_icmp .ne 9, 3) := by decide +kernel
theorem dX6_restsOf_51 : decode cX6_restsOf 51 = .ok (.iload_n 3, 1) := by decide +kernel
theorem dX6_restsOf_52 : decode cX6_restsOf 52 = .ok (.iconst 2, 1) := by decide +kernel
theorem dX6_restsOf_53 : decode cX6_restsOf 53 = .ok (.idiv, 1) := by decide +kernel
theorem dX6_restsOf_54 : decode cX6_restsOf 54 = .ok (.goto 15, 3) := by decide +kernel
theorem dX6_restsOf_57 : decode cX6_restsOf 57 = .ok (.iload_n 2, 1) := by decide +kernel
theorem dX6_restsOf_58 : decode cX6_restsOf 58 = .ok (.iconst 5, 1) := by decide +kernel
theorem dX6_restsOf_59 : decode cX6_restsOf 59 = .ok (.if_icmp .ne 9, 3) := by decide +kernel
end
section
theorem dX6_restsOf_62 : decode cX6_restsOf 62 = .ok (.iconst 2, 1) := by decide +kernel
theorem dX6_restsOf_63 : decode cX6_restsOf 63 = .ok (.iload_n 3, 1) := by decide +kernel
theorem dX6_restsOf_64 : decode cX6_restsOf 64 = .ok (.imul, 1) := by decide +kernel
theorem dX6_restsOf_65 : decode cX6_restsOf 65 = .ok (.goto 4, 3) := by decide +kernel
theorem dX6_restsOf_68 : decode cX6_restsOf 68 = .ok (.iload_n 3, 1) := by decide +kernel
theorem dX6_restsOf_69 : decode cX6_restsOf 69 = .ok (.iconst 0, 1) := by decide +kernel
theorem dX6_restsOf_70 : decode cX6_restsOf 70 = .ok (.bipush 99, 2) := by decide +kernel
theorem dX6_restsOf_72 : decode cX6_restsOf 72 = .ok (.invokestatic 352, 3) := by decide +kernel
theorem dX6_restsOf_75 : decode cX6_restsOf 75 = .ok (.ireturn, 1) := by decide +kernel
set_option maxRecDepth 20000 in
theorem dX6_foundOf_0 : decode cX6_foundOf 0 = .ok (.aload_n 0, 1) := by decide +kernel
theorem dX6_foundOf_1 : decode cX6_foundOf 1 = .ok (.getfield 23, 3) := by decide +kernel
theorem dX6_foundOf_4 : decode cX6_foundOf 4 = .ok (.iconst 4, 1) := by decide +kernel
theorem dX6_foundOf_5 : decode cX6_foundOf 5 = .ok (.iload_n 1, 1) := by decide +kernel
theorem dX6_foundOf_6 : decode cX6_foundOf 6 = .ok (.imul, 1) := by decide +kernel
theorem dX6_foundOf_7 : decode cX6_foundOf 7 = .ok (.iconst 3, 1) := by decide +kernel
theorem dX6_foundOf_8 : decode cX6_foundOf 8 = .ok (.iadd, 1) := by decide +kernel
theorem dX6_foundOf_9 : decode cX6_foundOf 9 = .ok (.iaload, 1) := by decide +kernel
theorem dX6_foundOf_10 : decode cX6_foundOf 10 = .ok (.istore_n 2, 1) := by decide +kernel
theorem dX6_foundOf_11 : decode cX6_foundOf 11 = .ok (.aload_n 0, 1) := by decide +kernel
theorem dX6_foundOf_12 : decode cX6_foundOf 12 = .ok (.iload_n 1, 1) := by decide +kernel
theorem dX6_foundOf_13 : decode cX6_foundOf 13 = .ok (.invokevirtual 130, 3) := by decide +kernel
theorem dX6_foundOf_16 : decode cX6_foundOf 16 = .ok (.istore_n 3, 1) := by decide +kernel
theorem dX6_foundOf_17 : decode cX6_foundOf 17 = .ok (.aload_n 0, 1) := by decide +kernel
theorem dX6_foundOf_18 : decode cX6_foundOf 18 = .ok (.getfield 23, 3) := by decide +kernel
theorem dX6_foundOf_21 : decode cX6_foundOf 21 = .ok (.iconst 4, 1) := by decide +kernel
theorem dX6_foundOf_22 : decode cX6_foundOf 22 = .ok (.iload_n 1, 1) := by decide +kernel
theorem dX6_foundOf_23 : decode cX6_foundOf 23 = .ok (.imul, 1) := by decide +kernel
theorem dX6_foundOf_24 : decode cX6_foundOf 24 = .ok (.iconst 2, 1) := by decide +kernel
theorem dX6_foundOf_25 : decode cX6_foundOf 25 = .ok (.iadd, 1) := by decide +kernel
theorem dX6_foundOf_26 : decode cX6_foundOf 26 = .ok (.iaload, 1) := by decide +kernel
theorem dX6_foundOf_27 : decode cX6_foundOf 27 = .ok (.istore 4, 2) := by decide +kernel
theorem dX6_foundOf_29 : decode cX6_foundOf 29 = .ok (.aload_n 0, 1) := by decide +kernel
theorem dX6_foundOf_30 : decode cX6_foundOf 30 = .ok (.getfield 106, 3) := by decide +kernel
theorem dX6_foundOf_33 : decode cX6_foundOf 33 = .ok (.iload_n 3, 1) := by decide +kernel
theorem dX6_foundOf_34 : decode cX6_foundOf 34 = .ok (.invokestatic 91, 3) := by decide +kernel
theorem dX6_foundOf_37 : decode cX6_foundOf 37 = .ok (.ifCond .ne 15, 3) := by decide +kernel
theorem dX6_foundOf_40 : decode cX6_foundOf 40 = .ok (.iload_n 2, 1) := by decide +kernel
theorem dX6_foundOf_41 : decode cX6_foundOf 41 = .ok (.iconst 5, 1) := by decide +kernel
theorem dX6_foundOf_42 : decode cX6_foundOf 42 = .ok (.if_icmp .ne 12, 3) := by decide +kernel
theorem dX6_foundOf_45 : decode cX6_foundOf 45 = .ok (.iload 4, 2) := by decide +kernel
theorem dX6_foundOf_47 : decode cX6_foundOf 47 = .ok (.bipush 49, 2) := by decide +kernel
theorem dX6_foundOf_49 : decode cX6_foundOf 49 = .ok (.if_icmp .le 5, 3) := by decide +kernel
theorem dX6_foundOf_52 : decode cX6_foundOf 52 = .ok (.iconst 2, 1) := by decide +kernel
theorem dX6_foundOf_53 : decode cX6_foundOf 53 = .ok (.ireturn, 1) := by decide +kernel
theorem dX6_foundOf_54 : decode cX6_foundOf 54 = .ok (.iload_n 2, 1) := by decide +kernel
theorem dX6_foundOf_55 : decode cX6_foundOf 55 = .ok (.iconst 4, 1) := by decide +kernel
theorem dX6_foundOf_56 : decode cX6_foundOf 56 = .ok (.if_icmp .ne 5, 3) := by decide +kernel
theorem dX6_foundOf_59 : decode cX6_foundOf 59 = .ok (.iconst 0, 1) := by decide +kernel
theorem dX6_foundOf_60 : decode cX6_foundOf 60 = .ok (.ireturn, 1) := by decide +kernel
theorem dX6_foundOf_61 : decode cX6_foundOf 61 = .ok (.iload_n 2, 1) := by decide +kernel
theorem dX6_foundOf_62 : decode cX6_foundOf 62 = .ok (.iconst 1, 1) := by decide +kernel
theorem dX6_foundOf_63 : decode cX6_foundOf 63 = .ok (.if_icmp .eq 8, 3) := by decide +kernel
theorem dX6_foundOf_66 : decode cX6_foundOf 66 = .ok (.iload_n 2, 1) := by decide +kernel
theorem dX6_foundOf_67 : decode cX6_foundOf 67 = .ok (.iconst 3, 1) := by decide +kernel
theorem dX6_foundOf_68 : decode cX6_foundOf 68 = .ok (.if_icmp .ne 13, 3) := by decide +kernel
theorem dX6_foundOf_71 : decode cX6_foundOf 71 = .ok (.iload 4, 2) := by decide +kernel
theorem dX6_foundOf_73 : decode cX6_foundOf 73 = .ok (.iconst 5, 1) := by decide +kernel
theorem dX6_foundOf_74 : decode cX6_foundOf 74 = .ok (.if_icmp .ge 7, 3) := by decide +kernel
theorem dX6_foundOf_77 : decode cX6_foundOf 77 = .ok (.iconst 1, 1) := by decide +kernel
theorem dX6_foundOf_78 : decode cX6_foundOf 78 = .ok (.goto 4, 3) := by decide +kernel
theorem dX6_foundOf_81 : decode cX6_foundOf 81 = .ok (.iconst 0, 1) := by decide +kernel
theorem dX6_foundOf_82 : decode cX6_foundOf 82 = .ok (.istore 5, 2) := by decide +kernel
theorem dX6_foundOf_84 : decode cX6_foundOf 84 = .ok (.iload 5, 2) := by decide +kernel
theorem dX6_foundOf_86 : decode cX6_foundOf 86 = .ok (.ifCond .ne 10, 3) := by decide +kernel
theorem dX6_foundOf_89 : decode cX6_foundOf 89 = .ok (.iload_n 3, 1) := by decide +kernel
theorem dX6_foundOf_90 : decode cX6_foundOf 90 = .ok (.invokestatic 359, 3) := by decide +kernel
theorem dX6_foundOf_93 : decode cX6_foundOf 93 = .ok (.ifCond .eq 7, 3) := by decide +kernel
theorem dX6_foundOf_96 : decode cX6_foundOf 96 = .ok (.iconst 1, 1) := by decide +kernel
theorem dX6_foundOf_97 : decode cX6_foundOf 97 = .ok (.goto 4, 3) := by decide +kernel
theorem dX6_foundOf_100 : decode cX6_foundOf 100 = .ok (.iconst 0, 1) := by decide +kernel
theorem dX6_foundOf_101 : decode cX6_foundOf 101 = .ok (.ireturn, 1) := by decide +kernel
theorem dX6_isBlack_0 : decode cX6_isBlack 0 = .ok (.iload_n 0, 1) := by decide +kernel
theorem dX6_isBlack_1 : decode cX6_isBlack 1 = .ok (.bipush 8, 2) := by decide +kernel
theorem dX6_isBlack_3 : decode cX6_isBlack 3 = .ok (.irem, 1) := by decide +kernel
theorem dX6_isBlack_4 : decode cX6_isBlack 4 = .ok (.iload_n 0, 1) := by decide +kernel
theorem dX6_isBlack_5 : decode cX6_isBlack 5 = .ok (.bipush 8, 2) := by decide +kernel
theorem dX6_isBlack_7 : decode cX6_isBlack 7 = .ok (.idiv, 1) := by decide +kernel
theorem dX6_isBlack_8 : decode cX6_isBlack 8 = .ok (.iadd, 1) := by decide +kernel
theorem dX6_isBlack_9 : decode cX6_isBlack 9 = .ok (.iconst 2, 1) := by decide +kernel
theorem dX6_isBlack_10 : decode cX6_isBlack 10 = .ok (.irem, 1) := by decide +kernel
theorem dX6_isBlack_11 : decode cX6_isBlack 11 = .ok (.iconst 1, 1) := by decide +kernel
theorem dX6_isBlack_12 : decode cX6_isBlack 12 = .ok (.if_icmp .ne 7, 3) := by decide +kernel
theorem dX6_isBlack_15 : decode cX6_isBlack 15 = .ok (.iconst 1, 1) := by decide +kernel
theorem dX6_isBlack_16 : decode cX6_isBlack 16 = .ok (.goto 4, 3) := by decide +kernel
theorem dX6_isBlack_19 : decode cX6_isBlack 19 = .ok (.iconst 0, 1) := by decide +kernel
theorem dX6_isBlack_20 : decode cX6_isBlack 20 = .ok (.ireturn, 1) := by decide +kernel
theorem dX6_columnsBy_0 : decode cX6_columnsBy 0 = .ok (.iload_n 0, 1) := by decide +kernel
theorem dX6_columnsBy_1 : decode cX6_columnsBy 1 = .ok (.ifCond .eq 8, 3) := by decide +kernel
theorem dX6_columnsBy_4 : decode cX6_columnsBy 4 = .ok (.iload_n 0, 1) := by decide +kernel
theorem dX6_columnsBy_5 : decode cX6_columnsBy 5 = .ok (.iconst 3, 1) := by decide +kernel
theorem dX6_columnsBy_6 : decode cX6_columnsBy 6 = .ok (.if_icmp .ne 7, 3) := by decide +kernel
theorem dX6_columnsBy_9 : decode cX6_columnsBy 9 = .ok (.iconst 1, 1) := by decide +kernel
theorem dX6_columnsBy_10 : decode cX6_columnsBy 10 = .ok (.goto 34, 3) := by decide +kernel
theorem dX6_columnsBy_13 : decode cX6_columnsBy 13 = .ok (.iload_n 0, 1) := by decide +kernel
theorem dX6_columnsBy_14 : decode cX6_columnsBy 14 = .ok (.iconst 1, 1) := by decide +kernel
theorem dX6_columnsBy_15 : decode cX6_columnsBy 15 = .ok (.if_icmp .eq 8, 3) := by decide +kernel
theorem dX6_columnsBy_18 : decode cX6_columnsBy 18 = .ok (.iload_n 0, 1) := by decide +kernel
theorem dX6_columnsBy_19 : decode cX6_columnsBy 19 = .ok (.iconst 2, 1) := by decide +kernel
theorem dX6_columnsBy_20 : decode cX6_columnsBy 20 = .ok (.if_icmp .ne 7, 3) := by decide +kernel
theorem dX6_columnsBy_23 : decode cX6_columnsBy 23 = .ok (.iconst 2, 1) := by decide +kernel
theorem dX6_columnsBy_24 : decode cX6_columnsBy 24 = .ok (.goto 20, 3) := by decide +kernel
theorem dX6_columnsBy_27 : decode cX6_columnsBy 27 = .ok (.iload_n 0, 1) := by decide +kernel
theorem dX6_columnsBy_28 : decode cX6_columnsBy 28 = .ok (.iconst 4, 1) := by decide +kernel
theorem dX6_columnsBy_29 : decode cX6_columnsBy 29 = .ok (.if_icmp .eq 9, 3) := by decide +kernel
theorem dX6_columnsBy_32 : decode cX6_columnsBy 32 = .ok (.iload_n 0, 1) := by decide +kernel
theorem dX6_columnsBy_33 : decode cX6_columnsBy 33 = .ok (.bipush 7, 2) := by decide +kernel
theorem dX6_columnsBy_35 : decode cX6_columnsBy 35 = .ok (.if_icmp .ne 7, 3) := by decide +kernel
theorem dX6_columnsBy_38 : decode cX6_columnsBy 38 = .ok (.iconst (-1), 1) := by decide +kernel
theorem dX6_columnsBy_39 : decode cX6_columnsBy 39 = .ok (.goto 5, 3) := by decide +kernel
theorem dX6_columnsBy_42 : decode cX6_columnsBy 42 = .ok (.bipush (-2), 2) := by decide +kernel
theorem dX6_columnsBy_44 : decode cX6_columnsBy 44 = .ok (.ireturn, 1) := by decide +kernel
theorem dX6_rowsBy_0 : decode cX6_rowsBy 0 = .ok (.iload_n 0, 1) := by decide +kernel
theorem dX6_rowsBy_1 : decode cX6_rowsBy 1 = .ok (.ifCond .eq 9, 3) := by decide +kernel
theorem dX6_rowsBy_4 : decode cX6_rowsBy 4 = .ok (.iload_n 0, 1) := by decide +kernel
theorem dX6_rowsBy_5 : decode cX6_rowsBy 5 = .ok (.bipush 7, 2) := by decide +kernel
theorem dX6_rowsBy_7 : decode cX6_rowsBy 7 = .ok (.if_icmp .ne 7, 3) := by decide +kernel
theorem dX6_rowsBy_10 : decode cX6_rowsBy 10 = .ok (.iconst 2, 1) := by decide +kernel
theorem dX6_rowsBy_11 : decode cX6_rowsBy 11 = .ok (.goto 34, 3) := by decide +kernel
theorem dX6_rowsBy_14 : decode cX6_rowsBy 14 = .ok (.iload_n 0, 1) := by decide +kernel
theorem dX6_rowsBy_15 : decode cX6_rowsBy 15 = .ok (.iconst 1, 1) := by decide +kernel
theorem dX6_rowsBy_16 : decode cX6_rowsBy 16 = .ok (.if_icmp .eq 9, 3) := by decide +kernel
theorem dX6_rowsBy_19 : decode cX6_rowsBy 19 = .ok (.iload_n 0, 1) := by decide +kernel
theorem dX6_rowsBy_20 : decode cX6_rowsBy 20 = .ok (.bipush 6, 2) := by decide +kernel
theorem dX6_rowsBy_22 : decode cX6_rowsBy 22 = .ok (.if_icmp .ne 7, 3) := by decide +kernel
theorem dX6_rowsBy_25 : decode cX6_rowsBy 25 = .ok (.iconst 1, 1) := by decide +kernel
theorem dX6_rowsBy_26 : decode cX6_rowsBy 26 = .ok (.goto 19, 3) := by decide +kernel
theorem dX6_rowsBy_29 : decode cX6_rowsBy 29 = .ok (.iload_n 0, 1) := by decide +kernel
theorem dX6_rowsBy_30 : decode cX6_rowsBy 30 = .ok (.iconst 2, 1) := by decide +kernel
theorem dX6_rowsBy_31 : decode cX6_rowsBy 31 = .ok (.if_icmp .eq 8, 3) := by decide +kernel
theorem dX6_rowsBy_34 : decode cX6_rowsBy 34 = .ok (.iload_n 0, 1) := by decide +kernel
theorem dX6_rowsBy_35 : decode cX6_rowsBy 35 = .ok (.iconst 5, 1) := by decide +kernel
theorem dX6_rowsBy_36 : decode cX6_rowsBy 36 = .ok (.if_icmp .ne 7, 3) := by decide +kernel
theorem dX6_rowsBy_39 : decode cX6_rowsBy 39 = .ok (.iconst (-1), 1) := by decide +kernel
theorem dX6_rowsBy_40 : decode cX6_rowsBy 40 = .ok (.goto 5, 3) := by decide +kernel
theorem dX6_rowsBy_43 : decode cX6_rowsBy 43 = .ok (.bipush (-2), 2) := by decide +kernel
theorem dX6_rowsBy_45 : decode cX6_rowsBy 45 = .ok (.ireturn, 1) := by decide +kernel
set_option maxRecDepth 20000 in
theorem dX6_leapFrom_0 : decode cX6_leapFrom 0 = .ok (.aload_n 0, 1) := by decide +kernel
theorem dX6_leapFrom_1 : decode cX6_leapFrom 1 = .ok (.getfield 23, 3) := by decide +kernel
theorem dX6_leapFrom_4 : decode cX6_leapFrom 4 = .ok (.iconst 4, 1) := by decide +kernel
theorem dX6_leapFrom_5 : decode cX6_leapFrom 5 = .ok (.iload_n 1, 1) := by decide +kernel
theorem dX6_leapFrom_6 : decode cX6_leapFrom 6 = .ok (.imul, 1) := by decide +kernel
theorem dX6_leapFrom_7 : decode cX6_leapFrom 7 = .ok (.iconst 3, 1) := by decide +kernel
theorem dX6_leapFrom_8 : decode cX6_leapFrom 8 = .ok (.iadd, 1) := by decide +kernel
theorem dX6_leapFrom_9 : decode cX6_leapFrom 9 = .ok (.iaload, 1) := by decide +kernel
theorem dX6_leapFrom_10 : decode cX6_leapFrom 10 = .ok (.istore 4, 2) := by decide +kernel
theorem dX6_leapFrom_12 : decode cX6_leapFrom 12 = .ok (.iload 4, 2) := by decide +kernel
theorem dX6_leapFrom_14 : decode cX6_leapFrom 14 = .ok (.iconst 2, 1) := by decide +kernel
theorem dX6_leapFrom_15 : decode cX6_leapFrom 15 = .ok (.if_icmp .eq 9, 3) := by decide +kernel
theorem dX6_leapFrom_18 : decode cX6_leapFrom 18 = .ok (.iload 4, 2) := by decide +kernel
theorem dX6_leapFrom_20 : decode cX6_leapFrom 20 = .ok (.iconst 4, 1) := by decide +kernel
theorem dX6_leapFrom_21 : decode cX6_leapFrom 21 = .ok (.if_icmp .ne 7, 3) := by decide +kernel
theorem dX6_leapFrom_24 : decode cX6_leapFrom 24 = .ok (.iconst 1, 1) := by decide +kernel
theorem dX6_leapFrom_25 : decode cX6_leapFrom 25 = .ok (.goto 4, 3) := by decide +kernel
theorem dX6_leapFrom_28 : decode cX6_leapFrom 28 = .ok (.iconst 0, 1) := by decide +kernel
theorem dX6_leapFrom_29 : decode cX6_leapFrom 29 = .ok (.istore 5, 2) := by decide +kernel
theorem dX6_leapFrom_31 : decode cX6_leapFrom 31 = .ok (.iload 5, 2) := by decide +kernel
theorem dX6_leapFrom_33 : decode cX6_leapFrom 33 = .ok (.ifCond .eq 10, 3) := by decide +kernel
theorem dX6_leapFrom_36 : decode cX6_leapFrom 36 = .ok (.iload_n 3, 1) := by decide +kernel
theorem dX6_leapFrom_37 : decode cX6_leapFrom 37 = .ok (.iconst 2, 1) := by decide +kernel
theorem dX6_leapFrom_38 : decode cX6_leapFrom 38 = .ok (.irem, 1) := by decide +kernel
theorem dX6_leapFrom_39 : decode cX6_leapFrom 39 = .ok (.iconst 1, 1) := by decide +kernel
theorem dX6_leapFrom_40 : decode cX6_leapFrom 40 = .ok (.if_icmp .eq 58, 3) := by decide +kernel
theorem dX6_leapFrom_43 : decode cX6_leapFrom 43 = .ok (.iload 4, 2) := by decide +kernel
theorem dX6_leapFrom_45 : decode cX6_leapFrom 45 = .ok (.iconst 3, 1) := by decide +kernel
theorem dX6_leapFrom_46 : decode cX6_leapFrom 46 = .ok (.if_icmp .ne 15, 3) := by decide +kernel
theorem dX6_leapFrom_49 : decode cX6_leapFrom 49 = .ok (.iload_n 3, 1) := by decide +kernel
theorem dX6_leapFrom_50 : decode cX6_leapFrom 50 = .ok (.aload_n 0, 1) := by decide +kernel
theorem dX6_leapFrom_51 : decode cX6_leapFrom 51 = .ok (.getfield 23, 3) := by decide +kernel
theorem dX6_leapFrom_54 : decode cX6_leapFrom 54 = .ok (.iconst 4, 1) := by decide +kernel
theorem dX6_leapFrom_55 : decode cX6_leapFrom 55 = .ok (.iload_n 1, 1) := by decide +kernel
theorem dX6_leapFrom_56 : decode cX6_leapFrom 56 = .ok (.imul, 1) := by decide +kernel
theorem dX6_leapFrom_57 : decode cX6_leapFrom 57 = .ok (.iaload, 1) := by decide +kernel
theorem dX6_leapFrom_58 : decode cX6_leapFrom 58 = .ok (.if_icmp .eq 40, 3) := by decide +kernel
theorem dX6_leapFrom_61 : decode cX6_leapFrom 61 = .ok (.iload 4, 2) := by decide +kernel
theorem dX6_leapFrom_63 : decode cX6_leapFrom 63 = .ok (.iconst 4, 1) := by decide +kernel
theorem dX6_leapFrom_64 : decode cX6_leapFrom 64 = .ok (.if_icmp .ne 13, 3) := by decide +kernel
theorem dX6_leapFrom_67 : decode cX6_leapFrom 67 = .ok (.aload_n 0, 1) := by decide +kernel
theorem dX6_leapFrom_68 : decode cX6_leapFrom 68 = .ok (.getfield 103, 3) := by decide +kernel
theorem dX6_leapFrom_71 : decode cX6_leapFrom 71 = .ok (.iconst 2, 1) := by decide +kernel
theorem dX6_leapFrom_72 : decode cX6_leapFrom 72 = .ok (.irem, 1) := by decide +kernel
theorem dX6_leapFrom_73 : decode cX6_leapFrom 73 = .ok (.iconst 1, 1) := by decide +kernel
theorem dX6_leapFrom_74 : decode cX6_leapFrom 74 = .ok (.if_icmp .eq 24, 3) := by decide +kernel
theorem dX6_leapFrom_77 : decode cX6_leapFrom 77 = .ok (.iload 4, 2) := by decide +kernel
theorem dX6_leapFrom_79 : decode cX6_leapFrom 79 = .ok (.iconst 5, 1) := by decide +kernel
theorem dX6_leapFrom_80 : decode cX6_leapFrom 80 = .ok (.if_icmp .ne 20, 3) := by decide +kernel
theorem dX6_leapFrom_83 : decode cX6_leapFrom 83 = .ok (.aload_n 0, 1) := by decide +kernel
theorem dX6_leapFrom_84 : decode cX6_leapFrom 84 = .ok (.getfield 23, 3) := by decide +kernel
theorem dX6_leapFrom_87 : decode cX6_leapFrom 87 = .ok (.iconst 4, 1) := by decide +kernel
theorem dX6_leapFrom_88 : decode cX6_leapFrom 88 = .ok (.iload_n 1, 1) := by decide +kernel
theorem dX6_leapFrom_89 : decode cX6_leapFrom 89 = .ok (.imul, 1) := by decide +kernel
theorem dX6_leapFrom_90 : decode cX6_leapFrom 90 = .ok (.iconst 2, 1) := by decide +kernel
theorem dX6_leapFrom_91 : decode cX6_leapFrom 91 = .ok (.iadd, 1) := by decide +kernel
theorem dX6_leapFrom_92 : decode cX6_leapFrom 92 = .ok (.iaload, 1) := by decide +kernel
theorem dX6_leapFrom_93 : decode cX6_leapFrom 93 = .ok (.bipush 49, 2) := by decide +kernel
theorem dX6_leapFrom_95 : decode cX6_leapFrom 95 = .ok (.if_icmp .le 5, 3) := by decide +kernel
theorem dX6_leapFrom_98 : decode cX6_leapFrom 98 = .ok (.iconst (-1), 1) := by decide +kernel
theorem dX6_leapFrom_99 : decode cX6_leapFrom 99 = .ok (.ireturn, 1) := by decide +kernel
theorem dX6_leapFrom_100 : decode cX6_leapFrom 100 = .ok (.iload_n 3, 1) := by decide +kernel
theorem dX6_leapFrom_101 : decode cX6_leapFrom 101 = .ok (.invokestatic 362, 3) := by decide +kernel
theorem dX6_leapFrom_104 : decode cX6_leapFrom 104 = .ok (.istore 6, 2) := by decide +kernel
theorem dX6_leapFrom_106 : decode cX6_leapFrom 106 = .ok (.iload_n 3, 1) := by decide +kernel
theorem dX6_leapFrom_107 : decode cX6_leapFrom 107 = .ok (.invokestatic 365, 3) := by decide +kernel
theorem dX6_leapFrom_110 : decode cX6_leapFrom 110 = .ok (.istore 7, 2) := by decide +kernel
theorem dX6_leapFrom_112 : decode cX6_leapFrom 112 = .ok (.iload 4, 2) := by decide +kernel
theorem dX6_leapFrom_114 : decode cX6_leapFrom 114 = .ok (.iconst 1, 1) := by decide +kernel
theorem dX6_leapFrom_115 : decode cX6_leapFrom 115 = .ok (.if_icmp .eq 9, 3) := by decide +kernel
theorem dX6_leapFrom_118 : decode cX6_leapFrom 118 = .ok (.iload 4, 2) := by decide +kernel
theorem dX6_leapFrom_120 : decode cX6_leapFrom 120 = .ok (.iconst 3, 1) := by decide +kernel
theorem dX6_leapFrom_121 : decode cX6_leapFrom 121 = .ok (.if_icmp .ne 38, 3) := by decide +kernel
theorem dX6_leapFrom_124 : decode cX6_leapFrom 124 = .ok (.iload_n 3, 1) := by decide +kernel
theorem dX6_leapFrom_125 : decode cX6_leapFrom 125 = .ok (.iconst 4, 1) := by decide +kernel
theorem dX6_leapFrom_126 : decode cX6_leapFrom 126 = .ok (.if_icmp .ge 33, 3) := by decide +kernel
theorem dX6_leapFrom_129 : decode cX6_leapFrom 129 = .ok (.iload_n 3, 1) := by decide +kernel
theorem dX6_leapFrom_130 : decode cX6_leapFrom 130 = .ok (.iconst 2, 1) := by decide +kernel
theorem dX6_leapFrom_131 : decode cX6_leapFrom 131 = .ok (.if_icmp .ge 7, 3) := by decide +kernel
theorem dX6_leapFrom_134 : decode cX6_leapFrom 134 = .ok (.iconst 2, 1) := by decide +kernel
theorem dX6_leapFrom_135 : decode cX6_leapFrom 135 = .ok (.goto 5, 3) := by decide +kernel
theorem dX6_leapFrom_138 : decode cX6_leapFrom 138 = .ok (.bipush (-2), 2) := by decide +kernel
theorem dX6_leapFrom_140 : decode cX6_leapFrom 140 = .ok (.istore 6, 2) := by decide +kernel
theorem dX6_leapFrom_142 : decode cX6_leapFrom 142 = .ok (.iload_n 3, 1) := by decide +kernel
theorem dX6_leapFrom_143 : decode cX6_leapFrom 143 = .ok (.ifCond .eq 8, 3) := by decide +kernel
theorem dX6_leapFrom_146 : decode cX6_leapFrom 146 = .ok (.iload_n 3, 1) := by decide +kernel
theorem dX6_leapFrom_147 : decode cX6_leapFrom 147 = .ok (.iconst 3, 1) := by decide +kernel
theorem dX6_leapFrom_148 : decode cX6_leapFrom 148 = .ok (.if_icmp .ne 7, 3) := by decide +kernel
theorem dX6_leapFrom_151 : decode cX6_leapFrom 151 = .ok (.iconst 2, 1) := by decide +kernel
theorem dX6_leapFrom_152 : decode cX6_leapFrom 152 = .ok (.goto 5, 3) := by decide +kernel
theorem dX6_leapFrom_155 : decode cX6_leapFrom 155 = .ok (.bipush (-2), 2) := by decide +kernel
theorem dX6_leapFrom_157 : decode cX6_leapFrom 157 = .ok (.istore 7, 2) := by decide +kernel
theorem dX6_leapFrom_159 : decode cX6_leapFrom 159 = .ok (.iload 5, 2) := by decide +kernel
theorem dX6_leapFrom_161 : decode cX6_leapFrom 161 = .ok (.ifCond .eq 45, 3) := by decide +kernel
theorem dX6_leapFrom_164 : decode cX6_leapFrom 164 = .ok (.iload_n 3, 1) := by decide +kernel
theorem dX6_leapFrom_165 : decode cX6_leapFrom 165 = .ok (.iconst 2, 1) := by decide +kernel
theorem dX6_leapFrom_166 : decode cX6_leapFrom 166 = .ok (.if_icmp .ne 7, 3) := by decide +kernel
theorem dX6_leapFrom_169 : decode cX6_leapFrom 169 = .ok (.iconst 1, 1) := by decide +kernel
theorem dX6_leapFrom_170 : decode cX6_leapFrom 170 = .ok (.goto 14, 3) := by decide +kernel
theorem dX6_leapFrom_173 : decode cX6_leapFrom 173 = .ok (.iload_n 3, 1) := by decide +kernel
theorem dX6_leapFrom_174 : decode cX6_leapFrom 174 = .ok (.bipush 6, 2) := by decide +kernel
theorem dX6_leapFrom_176 : decode cX6_leapFrom 176 = .ok (.if_icmp .ne 7, 3) := by decide +kernel
theorem dX6_leapFrom_179 : decode cX6_leapFrom 179 = .ok (.iconst (-1), 1) := by decide +kernel
theorem dX6_leapFrom_180 : decode cX6_leapFrom 180 = .ok (.goto 4, 3) := by decide +kernel
theorem dX6_leapFrom_183 : decode cX6_leapFrom 183 = .ok (.iconst 0, 1) := by decide +kernel
theorem dX6_leapFrom_184 : decode cX6_leapFrom 184 = .ok (.istore 6, 2) := by decide +kernel
theorem dX6_leapFrom_186 : decode cX6_leapFrom 186 = .ok (.iload_n 3, 1) := by decide +kernel
theorem dX6_leapFrom_187 : decode cX6_leapFrom 187 = .ok (.ifCond .ne 7, 3) := by decide +kernel
theorem dX6_leapFrom_190 : decode cX6_leapFrom 190 = .ok (.iconst 1, 1) := by decide +kernel
theorem dX6_leapFrom_191 : decode cX6_leapFrom 191 = .ok (.goto 13, 3) := by decide +kernel
theorem dX6_leapFrom_194 : decode cX6_leapFrom 194 = .ok (.iload_n 3, 1) := by decide +kernel
theorem dX6_leapFrom_195 : decode cX6_leapFrom 195 = .ok (.iconst 4, 1) := by decide +kernel
theorem dX6_leapFrom_196 : decode cX6_leapFrom 196 = .ok (.if_icmp .ne 7, 3) := by decide +kernel
theorem dX6_leapFrom_199 : decode cX6_leapFrom 199 = .ok (.iconst (-1), 1) := by decide +kernel
theorem dX6_leapFrom_200 : decode cX6_leapFrom 200 = .ok (.goto 4, 3) := by decide +kernel
theorem dX6_leapFrom_203 : decode cX6_leapFrom 203 = .ok (.iconst 0, 1) := by decide +kernel
theorem dX6_leapFrom_204 : decode cX6_leapFrom 204 = .ok (.istore 7, 2) := by decide +kernel
theorem dX6_leapFrom_206 : decode cX6_leapFrom 206 = .ok (.iload_n 2, 1) := by decide +kernel
theorem dX6_leapFrom_207 : decode cX6_leapFrom 207 = .ok (.bipush 8, 2) := by decide +kernel
theorem dX6_leapFrom_209 : decode cX6_leapFrom 209 = .ok (.irem, 1) := by decide +kernel
theorem dX6_leapFrom_210 : decode cX6_leapFrom 210 = .ok (.iload 6, 2) := by decide +kernel
theorem dX6_leapFrom_212 : decode cX6_leapFrom 212 = .ok (.iadd, 1) := by decide +kernel
theorem dX6_leapFrom_213 : decode cX6_leapFrom 213 = .ok (.istore 8, 2) := by decide +kernel
theorem dX6_leapFrom_215 : decode cX6_leapFrom 215 = .ok (.iload_n 2, 1) := by decide +kernel
theorem dX6_leapFrom_216 : decode cX6_leapFrom 216 = .ok (.bipush 8, 2) := by decide +kernel
theorem dX6_leapFrom_218 : decode cX6_leapFrom 218 = .ok (.idiv, 1) := by decide +kernel
theorem dX6_leapFrom_219 : decode cX6_leapFrom 219 = .ok (.iload 7, 2) := by decide +kernel
theorem dX6_leapFrom_221 : decode cX6_leapFrom 221 = .ok (.iadd, 1) := by decide +kernel
theorem dX6_leapFrom_222 : decode cX6_leapFrom 222 = .ok (.istore 9, 2) := by decide +kernel
theorem dX6_leapFrom_224 : decode cX6_leapFrom 224 = .ok (.iload 8, 2) := by decide +kernel
theorem dX6_leapFrom_226 : decode cX6_leapFrom 226 = .ok (.i2l, 1) := by decide +kernel
theorem dX6_leapFrom_227 : decode cX6_leapFrom 227 = .ok (.lconst 0, 1) := by decide +kernel
theorem dX6_leapFrom_228 : decode cX6_leapFrom 228 = .ok (.ldc2_w 368, 3) := by decide +kernel
theorem dX6_leapFrom_231 : decode cX6_leapFrom 231 = .ok (.invokestatic 61, 3) := by decide +kernel
theorem dX6_leapFrom_234 : decode cX6_leapFrom 234 = .ok (.ifCond .eq 34, 3) := by decide +kernel
theorem dX6_leapFrom_237 : decode cX6_leapFrom 237 = .ok (.iload 9, 2) := by decide +kernel
theorem dX6_leapFrom_239 : decode cX6_leapFrom 239 = .ok (.i2l, 1) := by decide +kernel
theorem dX6_leapFrom_240 : decode cX6_leapFrom 240 = .ok (.lconst 0, 1) := by decide +kernel
theorem dX6_leapFrom_241 : decode cX6_leapFrom 241 = .ok (.ldc2_w 368, 3) := by decide +kernel
theorem dX6_leapFrom_244 : decode cX6_leapFrom 244 = .ok (.invokestatic 61, 3) := by decide +kernel
theorem dX6_leapFrom_247 : decode cX6_leapFrom 247 = .ok (.ifCond .eq 21, 3) := by decide +kernel
theorem dX6_leapFrom_250 : decode cX6_leapFrom 250 = .ok (.aload_n 0, 1) := by decide +kernel
theorem dX6_leapFrom_251 : decode cX6_leapFrom 251 = .ok (.getfield 87, 3) := by decide +kernel
theorem dX6_leapFrom_254 : decode cX6_leapFrom 254 = .ok (.bipush 8, 2) := by decide +kernel
theorem dX6_leapFrom_256 : decode cX6_leapFrom 256 = .ok (.iload 9, 2) := by decide +kernel
theorem dX6_leapFrom_258 : decode cX6_leapFrom 258 = .ok (.imul, 1) := by decide +kernel
theorem dX6_leapFrom_259 : decode cX6_leapFrom 259 = .ok (.iload 8, 2) := by decide +kernel
theorem dX6_leapFrom_261 : decode cX6_leapFrom 261 = .ok (.iadd, 1) := by decide +kernel
theorem dX6_leapFrom_262 : decode cX6_leapFrom 262 = .ok (.invokestatic 91, 3) := by decide +kernel
theorem dX6_leapFrom_265 : decode cX6_leapFrom 265 = .ok (.ifCond .eq 5, 3) := by decide +kernel
theorem dX6_leapFrom_268 : decode cX6_leapFrom 268 = .ok (.iconst (-1), 1) := by decide +kernel
theorem dX6_leapFrom_269 : decode cX6_leapFrom 269 = .ok (.ireturn, 1) := by decide +kernel
theorem dX6_leapFrom_270 : decode cX6_leapFrom 270 = .ok (.bipush 8, 2) := by decide +kernel
theorem dX6_leapFrom_272 : decode cX6_leapFrom 272 = .ok (.iload 9, 2) := by decide +kernel
theorem dX6_leapFrom_274 : decode cX6_leapFrom 274 = .ok (.imul, 1) := by decide +kernel
theorem dX6_leapFrom_275 : decode cX6_leapFrom 275 = .ok (.iload 8, 2) := by decide +kernel
theorem dX6_leapFrom_277 : decode cX6_leapFrom 277 = .ok (.iadd, 1) := by decide +kernel
theorem dX6_leapFrom_278 : decode cX6_leapFrom 278 = .ok (.ireturn, 1) := by decide +kernel
set_option maxRecDepth 20000 in
theorem dX6_leap_0 : decode cX6_leap 0 = .ok (.aload_n 0, 1) := by decide +kernel
theorem dX6_leap_1 : decode cX6_leap 1 = .ok (.iload_n 1, 1) := by decide +kernel
theorem dX6_leap_2 : decode cX6_leap 2 = .ok (.invokevirtual 65, 3) := by decide +kernel
theorem dX6_leap_5 : decode cX6_leap 5 = .ok (.ifCond .eq 29, 3) := by decide +kernel
theorem dX6_leap_8 : decode cX6_leap 8 = .ok (.iload_n 2, 1) := by decide +kernel
theorem dX6_leap_9 : decode cX6_leap 9 = .ok (.i2l, 1) := by decide +kernel
theorem dX6_leap_10 : decode cX6_leap 10 = .ok (.lconst 0, 1) := by decide +kernel
theorem dX6_leap_11 : decode cX6_leap 11 = .ok (.ldc2_w 368, 3) := by decide +kernel
theorem dX6_leap_14 : decode cX6_leap 14 = .ok (.invokestatic 61, 3) := by decide +kernel
theorem dX6_leap_17 : decode cX6_leap 17 = .ok (.ifCond .eq 17, 3) := by decide +kernel
theorem dX6_leap_20 : decode cX6_leap 20 = .ok (.aload_n 0, 1) := by decide +kernel
theorem dX6_leap_21 : decode cX6_leap 21 = .ok (.iload_n 1, 1) := by decide +kernel
theorem dX6_leap_22 : decode cX6_leap 22 = .ok (.aload_n 0, 1) := by decide +kernel
theorem dX6_leap_23 : decode cX6_leap 23 = .ok (.iload_n 1, 1) := by decide +kernel
theorem dX6_leap_24 : decode cX6_leap 24 = .ok (.invokevirtual 130, 3) := by decide +kernel
theorem dX6_leap_27 : decode cX6_leap 27 = .ok (.iload_n 2, 1) := by decide +kernel
theorem dX6_leap_28 : decode cX6_leap 28 = .ok (.invokevirtual 370, 3) := by decide +kernel
theorem dX6_leap_31 : decode cX6_leap 31 = .ok (.goto 5, 3) := by decide +kernel
theorem dX6_leap_34 : decode cX6_leap 34 = .ok (.bipush (-2), 2) := by decide +kernel
theorem dX6_leap_36 : decode cX6_leap 36 = .ok (.ireturn, 1) := by decide +kernel
set_option maxRecDepth 20000 in
theorem dX6_passes_0 : decode cX6_passes 0 = .ok (.iconst 0, 1) := by decide +kernel
theorem dX6_passes_1 : decode cX6_passes 1 = .ok (.istore_n 1, 1) := by decide +kernel
theorem dX6_passes_2 : decode cX6_passes 2 = .ok (.iconst 0, 1) := by decide +kernel
theorem dX6_passes_3 : decode cX6_passes 3 = .ok (.istore_n 2, 1) := by decide +kernel
theorem dX6_passes_4 : decode cX6_passes 4 = .ok (.iload_n 2, 1) := by decide +kernel
theorem dX6_passes_5 : decode cX6_passes 5 = .ok (.aload_n 0, 1) := by decide +kernel
theorem dX6_passes_6 : decode cX6_passes 6 = .ok (.getfield 58, 3) := by decide +kernel
theorem dX6_passes_9 : decode cX6_passes 9 = .ok (.if_icmp .ge 144, 3) := by decide +kernel
theorem dX6_passes_12 : decode cX6_passes 12 = .ok (.aload_n 0, 1) := by decide +kernel
theorem dX6_passes_13 : decode cX6_passes 13 = .ok (.iload_n 2, 1) := by decide +kernel
theorem dX6_passes_14 : decode cX6_passes 14 = .ok (.invokevirtual 121, 3) := by decide +kernel
theorem dX6_passes_17 : decode cX6_passes 17 = .ok (.istore_n 3, 1) := by decide +kernel
theorem dX6_passes_18 : decode cX6_passes 18 = .ok (.aload_n 0, 1) := by decide +kernel
theorem dX6_passes_19 : decode cX6_passes 19 = .ok (.iload_n 2, 1) := by decide +kernel
theorem dX6_passes_20 : decode cX6_passes 20 = .ok (.invokevirtual 124, 3) := by decide +kernel
theorem dX6_passes_23 : decode cX6_passes 23 = .ok (.istore 4, 2) := by decide +kernel
theorem dX6_passes_25 : decode cX6_passes 25 = .ok (.iload_n 2, 1) := by decide +kernel
theorem dX6_passes_26 : decode cX6_passes 26 = .ok (.aload_n 0, 1) := by decide +kernel
theorem dX6_passes_27 : decode cX6_passes 27 = .ok (.getfield 26, 3) := by decide +kernel
theorem dX6_passes_30 : decode cX6_passes 30 = .ok (.if_icmp .ne 7, 3) := by decide +kernel
theorem dX6_passes_33 : decode cX6_passes 33 = .ok (.iconst (-1), 1) := by decide +kernel
theorem dX6_passes_34 : decode cX6_passes 34 = .ok (.goto 18, 3) := by decide +kernel
theorem dX6_passes_37 : decode cX6_passes 37 = .ok (.aload_n 0, 1) := by decide +kernel
theorem dX6_passes_38 : decode cX6_passes 38 = .ok (.iload_n 2, 1) := by decide +kernel
theorem dX6_passes_39 : decode cX6_passes 39 = .ok (.aload_n 0, 1) := by decide +kernel
theorem dX6_passes_40 : decode cX6_passes 40 = .ok (.iload_n 2, 1) := by decide +kernel
theorem dX6_passes_41 : decode cX6_passes 41 = .ok (.invokevirtual 130, 3) := by decide +kernel
theorem dX6_passes_44 : decode cX6_passes 44 = .ok (.aload_n 0, 1) := by decide +kernel
theorem dX6_passes_45 : decode cX6_passes 45 = .ok (.iload_n 2, 1) := by decide +kernel
theorem dX6_passes_46 : decode cX6_passes 46 = .ok (.invokevirtual 118, 3) := by decide +kernel
theorem dX6_passes_49 : decode cX6_passes 49 = .ok (.invokevirtual 370, 3) := by decide +kernel
theorem dX6_passes_52 : decode cX6_passes 52 = .ok (.istore 5, 2) := by decide +kernel
theorem dX6_passes_54 : decode cX6_passes 54 = .ok (.aload_n 0, 1) := by decide +kernel
theorem dX6_passes_55 : decode cX6_passes 55 = .ok (.getfield 23, 3) := by decide +kernel
theorem dX6_passes_58 : decode cX6_passes 58 = .ok (.iconst 4, 1) := by decide +kernel
theorem dX6_passes_59 : decode cX6_passes 59 = .ok (.iload_n 2, 1) := by decide +kernel
theorem dX6_passes_60 : decode cX6_passes 60 = .ok (.imul, 1) := by decide +kernel
theorem dX6_passes_61 : decode cX6_passes 61 = .ok (.iconst 2, 1) := by decide +kernel
theorem dX6_passes_62 : decode cX6_passes 62 = .ok (.iadd, 1) := by decide +kernel
theorem dX6_passes_63 : decode cX6_passes 63 = .ok (.iaload, 1) := by decide +kernel
theorem dX6_passes_64 : decode cX6_passes 64 = .ok (.istore 6, 2) := by decide +kernel
theorem dX6_passes_66 : decode cX6_passes 66 = .ok (.aload_n 0, 1) := by decide +kernel
theorem dX6_passes_67 : decode cX6_passes 67 = .ok (.getfield 23, 3) := by decide +kernel
theorem dX6_passes_70 : decode cX6_passes 70 = .ok (.iconst 4, 1) := by decide +kernel
theorem dX6_passes_71 : decode cX6_passes 71 = .ok (.iload_n 2, 1) := by decide +kernel
theorem dX6_passes_72 : decode cX6_passes 72 = .ok (.imul, 1) := by decide +kernel
theorem dX6_passes_73 : decode cX6_passes 73 = .ok (.iconst 2, 1) := by decide +kernel
theorem dX6_passes_74 : decode cX6_passes 74 = .ok (.iadd, 1) := by decide +kernel
theorem dX6_passes_75 : decode cX6_passes 75 = .ok (.iload 5, 2) := by decide +kernel
theorem dX6_passes_77 : decode cX6_passes 77 = .ok (.iconst (-1), 1) := by decide +kernel
theorem dX6_passes_78 : decode cX6_passes 78 = .ok (.if_icmp .ne 11, 3) := by decide +kernel
theorem dX6_passes_81 : decode cX6_passes 81 = .ok (.iload 6, 2) := by decide +kernel
theorem dX6_passes_83 : decode cX6_passes 83 = .ok (.iload 4, 2) := by decide +kernel
theorem dX6_passes_85 : decode cX6_passes 85 = .ok (.isub, 1) := by decide +kernel
theorem dX6_passes_86 : decode cX6_passes 86 = .ok (.goto 7, 3) := by decide +kernel
theorem dX6_passes_89 : decode cX6_passes 89 = .ok (.iload 6, 2) := by decide +kernel
theorem dX6_passes_91 : decode cX6_passes 91 = .ok (.iload_n 3, 1) := by decide +kernel
theorem dX6_passes_92 : decode cX6_passes 92 = .ok (.iadd, 1) := by decide +kernel
theorem dX6_passes_93 : decode cX6_passes 93 = .ok (.iconst 0, 1) := by decide +kernel
theorem dX6_passes_94 : decode cX6_passes 94 = .ok (.bipush 99, 2) := by decide +kernel
theorem dX6_passes_96 : decode cX6_passes 96 = .ok (.invokestatic 352, 3) := by decide +kernel
theorem dX6_passes_99 : decode cX6_passes 99 = .ok (.iastore, 1) := by decide +kernel
theorem dX6_passes_100 : decode cX6_passes 100 = .ok (.aload_n 0, 1) := by decide +kernel
theorem dX6_passes_101 : decode cX6_passes 101 = .ok (.getfield 23, 3) := by decide +kernel
theorem dX6_passes_104 : decode cX6_passes 104 = .ok (.iconst 4, 1) := by decide +kernel
theorem dX6_passes_105 : decode cX6_passes 105 = .ok (.iload_n 2, 1) := by decide +kernel
theorem dX6_passes_106 : decode cX6_passes 106 = .ok (.imul, 1) := by decide +kernel
theorem dX6_passes_107 : decode cX6_passes 107 = .ok (.iconst 1, 1) := by decide +kernel
theorem dX6_passes_108 : decode cX6_passes 108 = .ok (.iadd, 1) := by decide +kernel
theorem dX6_passes_109 : decode cX6_passes 109 = .ok (.iload 5, 2) := by decide +kernel
theorem dX6_passes_111 : decode cX6_passes 111 = .ok (.iconst (-1), 1) := by decide +kernel
theorem dX6_passes_112 : decode cX6_passes 112 = .ok (.if_icmp .ne 16, 3) := by decide +kernel
theorem dX6_passes_115 : decode cX6_passes 115 = .ok (.aload_n 0, 1) := by decide +kernel
theorem dX6_passes_116 : decode cX6_passes 116 = .ok (.getfield 23, 3) := by decide +kernel
theorem dX6_passes_119 : decode cX6_passes 119 = .ok (.iconst 4, 1) := by decide +kernel
theorem dX6_passes_120 : decode cX6_passes 120 = .ok (.iload_n 2, 1) := by decide +kernel
theorem dX6_passes_121 : decode cX6_passes 121 = .ok (.imul, 1) := by decide +kernel
theorem dX6_passes_122 : decode cX6_passes 122 = .ok (.iconst 1, 1) := by decide +kernel
theorem dX6_passes_123 : decode cX6_passes 123 = .ok (.iadd, 1) := by decide +kernel
theorem dX6_passes_124 : decode cX6_passes 124 = .ok (.iaload, 1) := by decide +kernel
theorem dX6_passes_125 : decode cX6_passes 125 = .ok (.goto 5, 3) := by decide +kernel
theorem dX6_passes_128 : decode cX6_passes 128 = .ok (.iload 5, 2) := by decide +kernel
theorem dX6_passes_130 : decode cX6_passes 130 = .ok (.iastore, 1) := by decide +kernel
theorem dX6_passes_131 : decode cX6_passes 131 = .ok (.iload_n 1, 1) := by decide +kernel
theorem dX6_passes_132 : decode cX6_passes 132 = .ok (.iload 5, 2) := by decide +kernel
theorem dX6_passes_134 : decode cX6_passes 134 = .ok (.iconst (-1), 1) := by decide +kernel
theorem dX6_passes_135 : decode cX6_passes 135 = .ok (.if_icmp .ne 7, 3) := by decide +kernel
theorem dX6_passes_138 : decode cX6_passes 138 = .ok (.iconst 0, 1) := by decide +kernel
theorem dX6_passes_139 : decode cX6_passes 139 = .ok (.goto 4, 3) := by decide +kernel
theorem dX6_passes_142 : decode cX6_passes 142 = .ok (.iconst 1, 1) := by decide +kernel
theorem dX6_passes_143 : decode cX6_passes 143 = .ok (.iload_n 2, 1) := by decide +kernel
theorem dX6_passes_144 : decode cX6_passes 144 = .ok (.ishl, 1) := by decide +kernel
theorem dX6_passes_145 : decode cX6_passes 145 = .ok (.ior, 1) := by decide +kernel
theorem dX6_passes_146 : decode cX6_passes 146 = .ok (.istore_n 1, 1) := by decide +kernel
theorem dX6_passes_147 : decode cX6_passes 147 = .ok (.iinc 2 1, 3) := by decide +kernel
theorem dX6_passes_150 : decode cX6_passes 150 = .ok (.goto (-146), 3) := by decide +kernel
theorem dX6_passes_153 : decode cX6_passes 153 = .ok (.aload_n 0, 1) := by decide +kernel
theorem dX6_passes_154 : decode cX6_passes 154 = .ok (.dup, 1) := by decide +kernel
theorem dX6_passes_155 : decode cX6_passes 155 = .ok (.getfield 103, 3) := by decide +kernel
theorem dX6_passes_158 : decode cX6_passes 158 = .ok (.iconst 1, 1) := by decide +kernel
theorem dX6_passes_159 : decode cX6_passes 159 = .ok (.iadd, 1) := by decide +kernel
theorem dX6_passes_160 : decode cX6_passes 160 = .ok (.putfield 103, 3) := by decide +kernel
theorem dX6_passes_163 : decode cX6_passes 163 = .ok (.iload_n 1, 1) := by decide +kernel
theorem dX6_passes_164 : decode cX6_passes 164 = .ok (.ireturn, 1) := by decide +kernel
set_option maxRecDepth 20000 in
theorem dX6_minute_0 : decode cX6_minute 0 = .ok (.aload_n 0, 1) := by decide +kernel
theorem dX6_minute_1 : decode cX6_minute 1 = .ok (.getfield 103, 3) := by decide +kernel
theorem dX6_minute_4 : decode cX6_minute 4 = .ok (.sipush 999, 3) := by decide +kernel
theorem dX6_minute_7 : decode cX6_minute 7 = .ok (.if_icmp .ne 8, 3) := by decide +kernel
theorem dX6_minute_10 : decode cX6_minute 10 = .ok (.bipush (-3), 2) := by decide +kernel
theorem dX6_minute_12 : decode cX6_minute 12 = .ok (.goto 7, 3) := by decide +kernel
theorem dX6_minute_15 : decode cX6_minute 15 = .ok (.aload_n 0, 1) := by decide +kernel
theorem dX6_minute_16 : decode cX6_minute 16 = .ok (.invokevirtual 373, 3) := by decide +kernel
theorem dX6_minute_19 : decode cX6_minute 19 = .ok (.ireturn, 1) := by decide +kernel
theorem dX6_laysAside_0 : decode cX6_laysAside 0 = .ok (.iconst 0, 1) := by decide +kernel
theorem dX6_laysAside_1 : decode cX6_laysAside 1 = .ok (.istore_n 1, 1) := by decide +kernel
theorem dX6_laysAside_2 : decode cX6_laysAside 2 = .ok (.iload_n 1, 1) := by decide +kernel
theorem dX6_laysAside_3 : decode cX6_laysAside 3 = .ok (.bipush 20, 2) := by decide +kernel
theorem dX6_laysAside_5 : decode cX6_laysAside 5 = .ok (.if_icmp .ge 21, 3) := by decide +kernel
theorem dX6_laysAside_8 : decode cX6_laysAside 8 = .ok (.aload_n 0, 1) := by decide +kernel
theorem dX6_laysAside_9 : decode cX6_laysAside 9 = .ok (.getfield 29, 3) := by decide +kernel
theorem dX6_laysAside_12 : decode cX6_laysAside 12 = .ok (.iload_n 1, 1) := by decide +kernel
theorem dX6_laysAside_13 : decode cX6_laysAside 13 = .ok (.aload_n 0, 1) := by decide +kernel
theorem dX6_laysAside_14 : decode cX6_laysAside 14 = .ok (.getfield 23, 3) := by decide +kernel
theorem dX6_laysAside_17 : decode cX6_laysAside 17 = .ok (.iload_n 1, 1) := by decide +kernel
theorem dX6_laysAside_18 : decode cX6_laysAside 18 = .ok (.iaload, 1) := by decide +kernel
theorem dX6_laysAside_19 : decode cX6_laysAside 19 = .ok (.iastore, 1) := by decide +kernel
theorem dX6_laysAside_20 : decode cX6_laysAside 20 = .ok (.iinc 1 1, 3) := by decide +kernel
theorem dX6_laysAside_23 : decode cX6_laysAside 23 = .ok (.goto (-21), 3) := by decide +kernel
theorem dX6_laysAside_26 : decode cX6_laysAside 26 = .ok (.aload_n 0, 1) := by decide +kernel
theorem dX6_laysAside_27 : decode cX6_laysAside 27 = .ok (.getfield 29, 3) := by decide +kernel
theorem dX6_laysAside_30 : decode cX6_laysAside 30 = .ok (.bipush 20, 2) := by decide +kernel
theorem dX6_laysAside_32 : decode cX6_laysAside 32 = .ok (.aload_n 0, 1) := by decide +kernel
theorem dX6_laysAside_33 : decode cX6_laysAside 33 = .ok (.getfield 103, 3) := by decide +kernel
theorem dX6_laysAside_36 : decode cX6_laysAside 36 = .ok (.iastore, 1) := by decide +kernel
theorem dX6_laysAside_37 : decode cX6_laysAside 37 = .ok (.return_, 1) := by decide +kernel
theorem dX6_laysBack_0 : decode cX6_laysBack 0 = .ok (.iconst 0, 1) := by decide +kernel
theorem dX6_laysBack_1 : decode cX6_laysBack 1 = .ok (.istore_n 1, 1) := by decide +kernel
theorem dX6_laysBack_2 : decode cX6_laysBack 2 = .ok (.iload_n 1, 1) := by decide +kernel
theorem dX6_laysBack_3 : decode cX6_laysBack 3 = .ok (.bipush 20, 2) := by decide +kernel
theorem dX6_laysBack_5 : decode cX6_laysBack 5 = .ok (.if_icmp .ge 21, 3) := by decide +kernel
theorem dX6_laysBack_8 : decode cX6_laysBack 8 = .ok (.aload_n 0, 1) := by decide +kernel
theorem dX6_laysBack_9 : decode cX6_laysBack 9 = .ok (.getfield 23, 3) := by decide +kernel
theorem dX6_laysBack_12 : decode cX6_laysBack 12 = .ok (.iload_n 1, 1) := by decide +kernel
theorem dX6_laysBack_13 : decode cX6_laysBack 13 = .ok (.aload_n 0, 1) := by decide +kernel
theorem dX6_laysBack_14 : decode cX6_laysBack 14 = .ok (.getfield 29, 3) := by decide +kernel
theorem dX6_laysBack_17 : decode cX6_laysBack 17 = .ok (.iload_n 1, 1) := by decide +kernel
theorem dX6_laysBack_18 : decode cX6_laysBack 18 = .ok (.iaload, 1) := by decide +kernel
theorem dX6_laysBack_19 : decode cX6_laysBack 19 = .ok (.iastore, 1) := by decide +kernel
theorem dX6_laysBack_20 : decode cX6_laysBack 20 = .ok (.iinc 1 1, 3) := by decide +kernel
theorem dX6_laysBack_23 : decode cX6_laysBack 23 = .ok (.goto (-21), 3) := by decide +kernel
theorem dX6_laysBack_26 : decode cX6_laysBack 26 = .ok (.aload_n 0, 1) := by decide +kernel
theorem dX6_laysBack_27 : decode cX6_laysBack 27 = .ok (.aload_n 0, 1) := by decide +kernel
theorem dX6_laysBack_28 : decode cX6_laysBack 28 = .ok (.getfield 29, 3) := by decide +kernel
theorem dX6_laysBack_31 : decode cX6_laysBack 31 = .ok (.bipush 20, 2) := by decide +kernel
theorem dX6_laysBack_33 : decode cX6_laysBack 33 = .ok (.iaload, 1) := by decide +kernel
theorem dX6_laysBack_34 : decode cX6_laysBack 34 = .ok (.putfield 103, 3) := by decide +kernel
theorem dX6_laysBack_37 : decode cX6_laysBack 37 = .ok (.return_, 1) := by decide +kernel
set_option maxRecDepth 20000 in
theorem dX6_goes_0 : decode cX6_goes 0 = .ok (.iconst 0, 1) := by decide +kernel
theorem dX6_goes_1 : decode cX6_goes 1 = .ok (.istore_n 2, 1) := by decide +kernel
theorem dX6_goes_2 : decode cX6_goes 2 = .ok (.iload_n 2, 1) := by decide +kernel
theorem dX6_goes_3 : decode cX6_goes 3 = .ok (.iload_n 1, 1) := by decide +kernel
theorem dX6_goes_4 : decode cX6_goes 4 = .ok (.if_icmp .ge 14, 3) := by decide +kernel
theorem dX6_goes_7 : decode cX6_goes 7 = .ok (.aload_n 0, 1) := by decide +kernel
theorem dX6_goes_8 : decode cX6_goes 8 = .ok (.invokevirtual 373, 3) := by decide +kernel
theorem dX6_goes_11 : decode cX6_goes 11 = .ok (.pop, 1) := by decide +kernel
theorem dX6_goes_12 : decode cX6_goes 12 = .ok (.iinc 2 1, 3) := by decide +kernel
theorem dX6_goes_15 : decode cX6_goes 15 = .ok (.goto (-13), 3) := by decide +kernel
theorem dX6_goes_18 : decode cX6_goes 18 = .ok (.return_, 1) := by decide +kernel
set_option maxRecDepth 20000 in
theorem dX6_foundMany_0 : decode cX6_foundMany 0 = .ok (.iconst 0, 1) := by decide +kernel
theorem dX6_foundMany_1 : decode cX6_foundMany 1 = .ok (.istore_n 2, 1) := by decide +kernel
theorem dX6_foundMany_2 : decode cX6_foundMany 2 = .ok (.iconst 0, 1) := by decide +kernel
theorem dX6_foundMany_3 : decode cX6_foundMany 3 = .ok (.istore_n 3, 1) := by decide +kernel
theorem dX6_foundMany_4 : decode cX6_foundMany 4 = .ok (.iload_n 3, 1) := by decide +kernel
theorem dX6_foundMany_5 : decode cX6_foundMany 5 = .ok (.aload_n 0, 1) := by decide +kernel
theorem dX6_foundMany_6 : decode cX6_foundMany 6 = .ok (.getfield 58, 3) := by decide +kernel
theorem dX6_foundMany_9 : decode cX6_foundMany 9 = .ok (.if_icmp .ge 26, 3) := by decide +kernel
theorem dX6_foundMany_12 : decode cX6_foundMany 12 = .ok (.iload_n 2, 1) := by decide +kernel
theorem dX6_foundMany_13 : decode cX6_foundMany 13 = .ok (.aload_n 0, 1) := by decide +kernel
theorem dX6_foundMany_14 : decode cX6_foundMany 14 = .ok (.iload_n 3, 1) := by decide +kernel
theorem dX6_foundMany_15 : decode cX6_foundMany 15 = .ok (.invokevirtual 127, 3) := by decide +kernel
theorem dX6_foundMany_18 : decode cX6_foundMany 18 = .ok (.iload_n 1, 1) := by decide +kernel
theorem dX6_foundMany_19 : decode cX6_foundMany 19 = .ok (.if_icmp .ne 7, 3) := by decide +kernel
theorem dX6_foundMany_22 : decode cX6_foundMany 22 = .ok (.iconst 1, 1) := by decide +kernel
theorem dX6_foundMany_23 : decode cX6_foundMany 23 = .ok (.goto 4, 3) := by decide +kernel
theorem dX6_foundMany_26 : decode cX6_foundMany 26 = .ok (.iconst 0, 1) := by decide +kernel
theorem dX6_foundMany_27 : decode cX6_foundMany 27 = .ok (.iadd, 1) := by decide +kernel
theorem dX6_foundMany_28 : decode cX6_foundMany 28 = .ok (.istore_n 2, 1) := by decide +kernel
theorem dX6_foundMany_29 : decode cX6_foundMany 29 = .ok (.iinc 3 1, 3) := by decide +kernel
theorem dX6_foundMany_32 : decode cX6_foundMany 32 = .ok (.goto (-28), 3) := by decide +kernel
theorem dX6_foundMany_35 : decode cX6_foundMany 35 = .ok (.iload_n 2, 1) := by decide +kernel
theorem dX6_foundMany_36 : decode cX6_foundMany 36 = .ok (.ireturn, 1) := by decide +kernel
set_option maxRecDepth 20000 in
theorem dX6_foundBehind_0 : decode cX6_foundBehind 0 = .ok (.aload_n 0, 1) := by decide +kernel
theorem dX6_foundBehind_1 : decode cX6_foundBehind 1 = .ok (.invokevirtual 376, 3) := by decide +kernel
theorem dX6_foundBehind_4 : decode cX6_foundBehind 4 = .ok (.aload_n 0, 1) := by decide +kernel
theorem dX6_foundBehind_5 : decode cX6_foundBehind 5 = .ok (.iload_n 2, 1) := by decide +kernel
theorem dX6_foundBehind_6 : decode cX6_foundBehind 6 = .ok (.invokevirtual 379, 3) := by decide +kernel
theorem dX6_foundBehind_9 : decode cX6_foundBehind 9 = .ok (.aload_n 0, 1) := by decide +kernel
theorem dX6_foundBehind_10 : decode cX6_foundBehind 10 = .ok (.iload_n 1, 1) := by decide +kernel
theorem dX6_foundBehind_11 : decode cX6_foundBehind 11 = .ok (.invokevirtual 383, 3) := by decide +kernel
theorem dX6_foundBehind_14 : decode cX6_foundBehind 14 = .ok (.istore_n 3, 1) := by decide +kernel
theorem dX6_foundBehind_15 : decode cX6_foundBehind 15 = .ok (.aload_n 0, 1) := by decide +kernel
theorem dX6_foundBehind_16 : decode cX6_foundBehind 16 = .ok (.invokevirtual 386, 3) := by decide +kernel
theorem dX6_foundBehind_19 : decode cX6_foundBehind 19 = .ok (.iload_n 3, 1) := by decide +kernel
theorem dX6_foundBehind_20 : decode cX6_foundBehind 20 = .ok (.ireturn, 1) := by decide +kernel
set_option maxRecDepth 20000 in
theorem dX6_run_0 : decode cX6_run 0 = .ok (.aload_n 0, 1) := by decide +kernel
theorem dX6_run_1 : decode cX6_run 1 = .ok (.iload_n 1, 1) := by decide +kernel
theorem dX6_run_2 : decode cX6_run 2 = .ok (.invokevirtual 65, 3) := by decide +kernel
theorem dX6_run_5 : decode cX6_run 5 = .ok (.ifCond .eq 27, 3) := by decide +kernel
theorem dX6_run_8 : decode cX6_run 8 = .ok (.iload_n 2, 1) := by decide +kernel
theorem dX6_run_9 : decode cX6_run 9 = .ok (.i2l, 1) := by decide +kernel
theorem dX6_run_10 : decode cX6_run 10 = .ok (.lconst 0, 1) := by decide +kernel
theorem dX6_run_11 : decode cX6_run 11 = .ok (.ldc2_w 389, 3) := by decide +kernel
theorem dX6_run_14 : decode cX6_run 14 = .ok (.invokestatic 61, 3) := by decide +kernel
theorem dX6_run_17 : decode cX6_run 17 = .ok (.ifCond .eq 15, 3) := by decide +kernel
theorem dX6_run_20 : decode cX6_run 20 = .ok (.iload_n 3, 1) := by decide +kernel
theorem dX6_run_21 : decode cX6_run 21 = .ok (.i2l, 1) := by decide +kernel
theorem dX6_run_22 : decode cX6_run 22 = .ok (.lconst 0, 1) := by decide +kernel
theorem dX6_run_23 : decode cX6_run 23 = .ok (.ldc2_w 391, 3) := by decide +kernel
theorem dX6_run_26 : decode cX6_run 26 = .ok (.invokestatic 61, 3) := by decide +kernel
theorem dX6_run_29 : decode cX6_run 29 = .ok (.ifCond .ne 6, 3) := by decide +kernel
theorem dX6_run_32 : decode cX6_run 32 = .ok (.bipush (-2), 2) := by decide +kernel
theorem dX6_run_34 : decode cX6_run 34 = .ok (.ireturn, 1) := by decide +kernel
theorem dX6_run_35 : decode cX6_run 35 = .ok (.aload_n 0, 1) := by decide +kernel
theorem dX6_run_36 : decode cX6_run 36 = .ok (.invokevirtual 376, 3) := by decide +kernel
theorem dX6_run_39 : decode cX6_run 39 = .ok (.aload_n 0, 1) := by decide +kernel
theorem dX6_run_40 : decode cX6_run 40 = .ok (.iload_n 2, 1) := by decide +kernel
theorem dX6_run_41 : decode cX6_run 41 = .ok (.invokevirtual 379, 3) := by decide +kernel
theorem dX6_run_44 : decode cX6_run 44 = .ok (.iload_n 3, 1) := by decide +kernel
theorem dX6_run_45 : decode cX6_run 45 = .ok (.iconst 2, 1) := by decide +kernel
theorem dX6_run_46 : decode cX6_run 46 = .ok (.if_icmp .ge 18, 3) := by decide +kernel
theorem dX6_run_49 : decode cX6_run 49 = .ok (.aload_n 0, 1) := by decide +kernel
theorem dX6_run_50 : decode cX6_run 50 = .ok (.getfield 23, 3) := by decide +kernel
theorem dX6_run_53 : decode cX6_run 53 = .ok (.iconst 4, 1) := by decide +kernel
theorem dX6_run_54 : decode cX6_run 54 = .ok (.iload_n 1, 1) := by decide +kernel
theorem dX6_run_55 : decode cX6_run 55 = .ok (.imul, 1) := by decide +kernel
theorem dX6_run_56 : decode cX6_run 56 = .ok (.iconst 1, 1) := by decide +kernel
theorem dX6_run_57 : decode cX6_run 57 = .ok (.iadd, 1) := by decide +kernel
theorem dX6_run_58 : decode cX6_run 58 = .ok (.iload_n 3, 1) := by decide +kernel
theorem dX6_run_59 : decode cX6_run 59 = .ok (.iadd, 1) := by decide +kernel
theorem dX6_run_60 : decode cX6_run 60 = .ok (.iaload, 1) := by decide +kernel
theorem dX6_run_61 : decode cX6_run 61 = .ok (.goto 21, 3) := by decide +kernel
theorem dX6_run_64 : decode cX6_run 64 = .ok (.iload_n 3, 1) := by decide +kernel
theorem dX6_run_65 : decode cX6_run 65 = .ok (.iconst 2, 1) := by decide +kernel
theorem dX6_run_66 : decode cX6_run 66 = .ok (.if_icmp .ne 11, 3) := by decide +kernel
theorem dX6_run_69 : decode cX6_run 69 = .ok (.aload_n 0, 1) := by decide +kernel
theorem dX6_run_70 : decode cX6_run 70 = .ok (.iload_n 1, 1) := by decide +kernel
theorem dX6_run_71 : decode cX6_run 71 = .ok (.invokevirtual 127, 3) := by decide +kernel
theorem dX6_run_74 : decode cX6_run 74 = .ok (.goto 8, 3) := by decide +kernel
theorem dX6_run_77 : decode cX6_run 77 = .ok (.aload_n 0, 1) := by decide +kernel
theorem dX6_run_78 : decode cX6_run 78 = .ok (.iconst 1, 1) := by decide +kernel
theorem dX6_run_79 : decode cX6_run 79 = .ok (.invokevirtual 383, 3) := by decide +kernel
theorem dX6_run_82 : decode cX6_run 82 = .ok (.istore 4, 2) := by decide +kernel
theorem dX6_run_84 : decode cX6_run 84 = .ok (.aload_n 0, 1) := by decide +kernel
theorem dX6_run_85 : decode cX6_run 85 = .ok (.invokevirtual 386, 3) := by decide +kernel
theorem dX6_run_88 : decode cX6_run 88 = .ok (.iload 4, 2) := by decide +kernel
theorem dX6_run_90 : decode cX6_run 90 = .ok (.ireturn, 1) := by decide +kernel
set_option maxRecDepth 20000 in
theorem dX6_call_0 : decode cX6_call 0 = .ok (.iload_n 1, 1) := by decide +kernel
theorem dX6_call_1 : decode cX6_call 1 = .ok (.i2l, 1) := by decide +kernel
theorem dX6_call_2 : decode cX6_call 2 = .ok (.lconst 0, 1) := by decide +kernel
theorem dX6_call_3 : decode cX6_call 3 = .ok (.ldc2_w 133, 3) := by decide +kernel
theorem dX6_call_6 : decode cX6_call 6 = .ok (.invokestatic 61, 3) := by decide +kernel
theorem dX6_call_9 : decode cX6_call 9 = .ok (.ifCond .eq 25, 3) := by decide +kernel
theorem dX6_call_12 : decode cX6_call 12 = .ok (.iload_n 2, 1) := by decide +kernel
theorem dX6_call_13 : decode cX6_call 13 = .ok (.i2l, 1) := by decide +kernel
theorem dX6_call_14 : decode cX6_call 14 = .ok (.lconst 0, 1) := by decide +kernel
theorem dX6_call_15 : decode cX6_call 15 = .ok (.ldc2_w 389, 3) := by decide +kernel
theorem dX6_call_18 : decode cX6_call 18 = .ok (.invokestatic 61, 3) := by decide +kernel
theorem dX6_call_21 : decode cX6_call 21 = .ok (.ifCond .eq 13, 3) := by decide +kernel
theorem dX6_call_24 : decode cX6_call 24 = .ok (.iload_n 3, 1) := by decide +kernel
theorem dX6_call_25 : decode cX6_call 25 = .ok (.i2l, 1) := by decide +kernel
theorem dX6_call_26 : decode cX6_call 26 = .ok (.lconst 0, 1) := by decide +kernel
theorem dX6_call_27 : decode cX6_call 27 = .ok (.lconst 1, 1) := by decide +kernel
theorem dX6_call_28 : decode cX6_call 28 = .ok (.invokestatic 61, 3) := by decide +kernel
theorem dX6_call_31 : decode cX6_call 31 = .ok (.ifCond .ne 6, 3) := by decide +kernel
theorem dX6_call_34 : decode cX6_call 34 = .ok (.bipush (-2), 2) := by decide +kernel
theorem dX6_call_36 : decode cX6_call 36 = .ok (.ireturn, 1) := by decide +kernel
theorem dX6_call_37 : decode cX6_call 37 = .ok (.iconst 0, 1) := by decide +kernel
theorem dX6_call_38 : decode cX6_call 38 = .ok (.istore 4, 2) := by decide +kernel
theorem dX6_call_40 : decode cX6_call 40 = .ok (.iconst (-1), 1) := by decide +kernel
theorem dX6_call_41 : decode cX6_call 41 = .ok (.istore 5, 2) := by decide +kernel
theorem dX6_call_43 : decode cX6_call 43 = .ok (.iconst 0, 1) := by decide +kernel
theorem dX6_call_44 : decode cX6_call 44 = .ok (.istore 6, 2) := by decide +kernel
theorem dX6_call_46 : decode cX6_call 46 = .ok (.iload 6, 2) := by decide +kernel
theorem dX6_call_48 : decode cX6_call 48 = .ok (.iload_n 2, 1) := by decide +kernel
theorem dX6_call_49 : decode cX6_call 49 = .ok (.if_icmp .gt 33, 3) := by decide +kernel
theorem dX6_call_52 : decode cX6_call 52 = .ok (.aload_n 0, 1) := by decide +kernel
theorem dX6_call_53 : decode cX6_call 53 = .ok (.iload_n 1, 1) := by decide +kernel
theorem dX6_call_54 : decode cX6_call 54 = .ok (.iload 6, 2) := by decide +kernel
theorem dX6_call_56 : decode cX6_call 56 = .ok (.invokevirtual 393, 3) := by decide +kernel
theorem dX6_call_59 : decode cX6_call 59 = .ok (.istore 7, 2) := by decide +kernel
theorem dX6_call_61 : decode cX6_call 61 = .ok (.iload 7, 2) := by decide +kernel
theorem dX6_call_63 : decode cX6_call 63 = .ok (.iload 5, 2) := by decide +kernel
theorem dX6_call_65 : decode cX6_call 65 = .ok (.if_icmp .le 11, 3) := by decide +kernel
theorem dX6_call_68 : decode cX6_call 68 = .ok (.iload 6, 2) := by decide +kernel
theorem dX6_call_70 : decode cX6_call 70 = .ok (.istore 4, 2) := by decide +kernel
theorem dX6_call_72 : decode cX6_call 72 = .ok (.iload 7, 2) := by decide +kernel
theorem dX6_call_74 : decode cX6_call 74 = .ok (.istore 5, 2) := by decide +kernel
theorem dX6_call_76 : decode cX6_call 76 = .ok (.iinc 6 1, 3) := by decide +kernel
theorem dX6_call_79 : decode cX6_call 79 = .ok (.goto (-33), 3) := by decide +kernel
theorem dX6_call_82 : decode cX6_call 82 = .ok (.iload_n 3, 1) := by decide +kernel
theorem dX6_call_83 : decode cX6_call 83 = .ok (.ifCond .ne 8, 3) := by decide +kernel
theorem dX6_call_86 : decode cX6_call 86 = .ok (.iload 4, 2) := by decide +kernel
theorem dX6_call_88 : decode cX6_call 88 = .ok (.goto 5, 3) := by decide +kernel
theorem dX6_call_91 : decode cX6_call 91 = .ok (.iload 5, 2) := by decide +kernel
theorem dX6_call_93 : decode cX6_call 93 = .ok (.ireturn, 1) := by decide +kernel
set_option maxRecDepth 20000 in
theorem dX6_meet_0 : decode cX6_meet 0 = .ok (.aload_n 0, 1) := by decide +kernel
theorem dX6_meet_1 : decode cX6_meet 1 = .ok (.iload_n 1, 1) := by decide +kernel
theorem dX6_meet_2 : decode cX6_meet 2 = .ok (.iload_n 2, 1) := by decide +kernel
theorem dX6_meet_3 : decode cX6_meet 3 = .ok (.invokevirtual 396, 3) := by decide +kernel
theorem dX6_meet_6 : decode cX6_meet 6 = .ok (.ifCond .ne 6, 3) := by decide +kernel
theorem dX6_meet_9 : decode cX6_meet 9 = .ok (.bipush (-2), 2) := by decide +kernel
theorem dX6_meet_11 : decode cX6_meet 11 = .ok (.ireturn, 1) := by decide +kernel
theorem dX6_meet_12 : decode cX6_meet 12 = .ok (.aload_n 0, 1) := by decide +kernel
theorem dX6_meet_13 : decode cX6_meet 13 = .ok (.invokevirtual 376, 3) := by decide +kernel
theorem dX6_meet_16 : decode cX6_meet 16 = .ok (.iconst 0, 1) := by decide +kernel
theorem dX6_meet_17 : decode cX6_meet 17 = .ok (.istore_n 3, 1) := by decide +kernel
theorem dX6_meet_18 : decode cX6_meet 18 = .ok (.iload_n 3, 1) := by decide +kernel
theorem dX6_meet_19 : decode cX6_meet 19 = .ok (.bipush 60, 2) := by decide +kernel
theorem dX6_meet_21 : decode cX6_meet 21 = .ok (.if_icmp .gt 27, 3) := by decide +kernel
theorem dX6_meet_24 : decode cX6_meet 24 = .ok (.aload_n 0, 1) := by decide +kernel
theorem dX6_meet_25 : decode cX6_meet 25 = .ok (.iload_n 1, 1) := by decide +kernel
theorem dX6_meet_26 : decode cX6_meet 26 = .ok (.invokevirtual 130, 3) := by decide +kernel
theorem dX6_meet_29 : decode cX6_meet 29 = .ok (.aload_n 0, 1) := by decide +kernel
theorem dX6_meet_30 : decode cX6_meet 30 = .ok (.iload_n 2, 1) := by decide +kernel
theorem dX6_meet_31 : decode cX6_meet 31 = .ok (.invokevirtual 130, 3) := by decide +kernel
theorem dX6_meet_34 : decode cX6_meet 34 = .ok (.if_icmp .eq 14, 3) := by decide +kernel
theorem dX6_meet_37 : decode cX6_meet 37 = .ok (.aload_n 0, 1) := by decide +kernel
theorem dX6_meet_38 : decode cX6_meet 38 = .ok (.invokevirtual 373, 3) := by decide +kernel
theorem dX6_meet_41 : decode cX6_meet 41 = .ok (.pop, 1) := by decide +kernel
theorem dX6_meet_42 : decode cX6_meet 42 = .ok (.iinc 3 1, 3) := by decide +kernel
theorem dX6_meet_45 : decode cX6_meet 45 = .ok (.goto (-27), 3) := by decide +kernel
theorem dX6_meet_48 : decode cX6_meet 48 = .ok (.aload_n 0, 1) := by decide +kernel
theorem dX6_meet_49 : decode cX6_meet 49 = .ok (.invokevirtual 386, 3) := by decide +kernel
theorem dX6_meet_52 : decode cX6_meet 52 = .ok (.iload_n 3, 1) := by decide +kernel
theorem dX6_meet_53 : decode cX6_meet 53 = .ok (.bipush 60, 2) := by decide +kernel
theorem dX6_meet_55 : decode cX6_meet 55 = .ok (.if_icmp .le 7, 3) := by decide +kernel
theorem dX6_meet_58 : decode cX6_meet 58 = .ok (.iconst (-1), 1) := by decide +kernel
theorem dX6_meet_59 : decode cX6_meet 59 = .ok (.goto 4, 3) := by decide +kernel
theorem dX6_meet_62 : decode cX6_meet 62 = .ok (.iload_n 3, 1) := by decide +kernel
theorem dX6_meet_63 : decode cX6_meet 63 = .ok (.ireturn, 1) := by decide +kernel
set_option maxRecDepth 20000 in
theorem dX6_reachedBy_0 : decode cX6_reachedBy 0 = .ok (.lconst 1, 1) := by decide +kernel
theorem dX6_reachedBy_1 : decode cX6_reachedBy 1 = .ok (.aload_n 0, 1) := by decide +kernel
theorem dX6_reachedBy_2 : decode cX6_reachedBy 2 = .ok (.iload_n 1, 1) := by decide +kernel
theorem dX6_reachedBy_3 : decode cX6_reachedBy 3 = .ok (.invokevirtual 130, 3) := by decide +kernel
theorem dX6_reachedBy_6 : decode cX6_reachedBy 6 = .ok (.lshl, 1) := by decide +kernel
theorem dX6_reachedBy_7 : decode cX6_reachedBy 7 = .ok (.lstore_n 3, 1) := by decide +kernel
theorem dX6_reachedBy_8 : decode cX6_reachedBy 8 = .ok (.lconst 0, 1) := by decide +kernel
theorem dX6_reachedBy_9 : decode cX6_reachedBy 9 = .ok (.lstore 5, 2) := by decide +kernel
theorem dX6_reachedBy_11 : decode cX6_reachedBy 11 = .ok (.iconst 0, 1) := by decide +kernel
theorem dX6_reachedBy_12 : decode cX6_reachedBy 12 = .ok (.istore 7, 2) := by decide +kernel
theorem dX6_reachedBy_14 : decode cX6_reachedBy 14 = .ok (.iload 7, 2) := by decide +kernel
theorem dX6_reachedBy_16 : decode cX6_reachedBy 16 = .ok (.iload_n 2, 1) := by decide +kernel
theorem dX6_reachedBy_17 : decode cX6_reachedBy 17 = .ok (.if_icmp .ge 87, 3) := by decide +kernel
theorem dX6_reachedBy_20 : decode cX6_reachedBy 20 = .ok (.lload_n 3, 1) := by decide +kernel
theorem dX6_reachedBy_21 : decode cX6_reachedBy 21 = .ok (.lload 5, 2) := by decide +kernel
theorem dX6_reachedBy_23 : decode cX6_reachedBy 23 = .ok (.lcmp, 1) := by decide +kernel
theorem dX6_reachedBy_24 : decode cX6_reachedBy 24 = .ok (.ifCond .eq 80, 3) := by decide +kernel
theorem dX6_reachedBy_27 : decode cX6_reachedBy 27 = .ok (.lload_n 3, 1) := by decide +kernel
theorem dX6_reachedBy_28 : decode cX6_reachedBy 28 = .ok (.lstore 5, 2) := by decide +kernel
theorem dX6_reachedBy_30 : decode cX6_reachedBy 30 = .ok (.iconst 0, 1) := by decide +kernel
theorem dX6_reachedBy_31 : decode cX6_reachedBy 31 = .ok (.istore 8, 2) := by decide +kernel
theorem dX6_reachedBy_33 : decode cX6_reachedBy 33 = .ok (.iload 8, 2) := by decide +kernel
theorem dX6_reachedBy_35 : decode cX6_reachedBy 35 = .ok (.sipush 512, 3) := by decide +kernel
theorem dX6_reachedBy_38 : decode cX6_reachedBy 38 = .ok (.if_icmp .ge 60, 3) := by decide +kernel
theorem dX6_reachedBy_41 : decode cX6_reachedBy 41 = .ok (.lload 5, 2) := by decide +kernel
theorem dX6_reachedBy_43 : decode cX6_reachedBy 43 = .ok (.iload 8, 2) := by decide +kernel
theorem dX6_reachedBy_45 : decode cX6_reachedBy 45 = .ok (.bipush 8, 2) := by decide +kernel
theorem dX6_reachedBy_47 : decode cX6_reachedBy 47 = .ok (.idiv, 1) := by decide +kernel
theorem dX6_reachedBy_48 : decode cX6_reachedBy 48 = .ok (.invokestatic 91, 3) := by decide +kernel
theorem dX6_reachedBy_51 : decode cX6_reachedBy 51 = .ok (.ifCond .eq 21, 3) := by decide +kernel
theorem dX6_reachedBy_54 : decode cX6_reachedBy 54 = .ok (.aload_n 0, 1) := by decide +kernel
theorem dX6_reachedBy_55 : decode cX6_reachedBy 55 = .ok (.iload_n 1, 1) := by decide +kernel
theorem dX6_reachedBy_56 : decode cX6_reachedBy 56 = .ok (.iload 8, 2) := by decide +kernel
theorem dX6_reachedBy_58 : decode cX6_reachedBy 58 = .ok (.bipush 8, 2) := by decide +kernel
theorem dX6_reachedBy_60 : decode cX6_reachedBy 60 = .ok (.idiv, 1) := by decide +kernel
theorem dX6_reachedBy_61 : decode cX6_reachedBy 61 = .ok (.iload 8, 2) := by decide +kernel
theorem dX6_reachedBy_63 : decode cX6_reachedBy 63 = .ok (.bipush 8, 2) := by decide +kernel
theorem dX6_reachedBy_65 : decode cX6_reachedBy 65 = .ok (.irem, 1) := by decide +kernel
theorem dX6_reachedBy_66 : decode cX6_reachedBy 66 = .ok (.invokevirtual 370, 3) := by decide +kernel
theorem dX6_reachedBy_69 : decode cX6_reachedBy 69 = .ok (.goto 4, 3) := by decide +kernel
theorem dX6_reachedBy_72 : decode cX6_reachedBy 72 = .ok (.iconst (-1), 1) := by decide +kernel
theorem dX6_reachedBy_73 : decode cX6_reachedBy 73 = .ok (.istore 9, 2) := by decide +kernel
theorem dX6_reachedBy_75 : decode cX6_reachedBy 75 = .ok (.lload_n 3, 1) := by decide +kernel
theorem dX6_reachedBy_76 : decode cX6_reachedBy 76 = .ok (.iload 9, 2) := by decide +kernel
theorem dX6_reachedBy_78 : decode cX6_reachedBy 78 = .ok (.iconst (-1), 1) := by decide +kernel
theorem dX6_reachedBy_79 : decode cX6_reachedBy 79 = .ok (.if_icmp .ne 7, 3) := by decide +kernel
theorem dX6_reachedBy_82 : decode cX6_reachedBy 82 = .ok (.lconst 0, 1) := by decide +kernel
theorem dX6_reachedBy_83 : decode cX6_reachedBy 83 = .ok (.goto 7, 3) := by decide +kernel
theorem dX6_reachedBy_86 : decode cX6_reachedBy 86 = .ok (.lconst 1, 1) := by decide +kernel
theorem dX6_reachedBy_87 : decode cX6_reachedBy 87 = .ok (.iload 9, 2) := by decide +kernel
theorem dX6_reachedBy_89 : decode cX6_reachedBy 89 = .ok (.lshl, 1) := by decide +kernel
theorem dX6_reachedBy_90 : decode cX6_reachedBy 90 = .ok (.lor, 1) := by decide +kernel
theorem dX6_reachedBy_91 : decode cX6_reachedBy 91 = .ok (.lstore_n 3, 1) := by decide +kernel
theorem dX6_reachedBy_92 : decode cX6_reachedBy 92 = .ok (.iinc 8 1, 3) := by decide +kernel
theorem dX6_reachedBy_95 : decode cX6_reachedBy 95 = .ok (.goto (-62), 3) := by decide +kernel
theorem dX6_reachedBy_98 : decode cX6_reachedBy 98 = .ok (.iinc 7 1, 3) := by decide +kernel
theorem dX6_reachedBy_101 : decode cX6_reachedBy 101 = .ok (.goto (-87), 3) := by decide +kernel
theorem dX6_reachedBy_104 : decode cX6_reachedBy 104 = .ok (.lload_n 3, 1) := by decide +kernel
theorem dX6_reachedBy_105 : decode cX6_reachedBy 105 = .ok (.lreturn, 1) := by decide +kernel
set_option maxRecDepth 20000 in
theorem dX6_reached_0 : decode cX6_reached 0 = .ok (.aload_n 0, 1) := by decide +kernel
theorem dX6_reached_1 : decode cX6_reached 1 = .ok (.iload_n 1, 1) := by decide +kernel
theorem dX6_reached_2 : decode cX6_reached 2 = .ok (.invokevirtual 65, 3) := by decide +kernel
theorem dX6_reached_5 : decode cX6_reached 5 = .ok (.ifCond .eq 24, 3) := by decide +kernel
theorem dX6_reached_8 : decode cX6_reached 8 = .ok (.iload_n 2, 1) := by decide +kernel
theorem dX6_reached_9 : decode cX6_reached 9 = .ok (.i2l, 1) := by decide +kernel
theorem dX6_reached_10 : decode cX6_reached 10 = .ok (.lconst 0, 1) := by decide +kernel
theorem dX6_reached_11 : decode cX6_reached 11 = .ok (.ldc2_w 69, 3) := by decide +kernel
theorem dX6_reached_14 : decode cX6_reached 14 = .ok (.invokestatic 61, 3) := by decide +kernel
theorem dX6_reached_17 : decode cX6_reached 17 = .ok (.ifCond .eq 12, 3) := by decide +kernel
theorem dX6_reached_20 : decode cX6_reached 20 = .ok (.aload_n 0, 1) := by decide +kernel
theorem dX6_reached_21 : decode cX6_reached 21 = .ok (.iload_n 1, 1) := by decide +kernel
theorem dX6_reached_22 : decode cX6_reached 22 = .ok (.iload_n 2, 1) := by decide +kernel
theorem dX6_reached_23 : decode cX6_reached 23 = .ok (.invokevirtual 399, 3) := by decide +kernel
theorem dX6_reached_26 : decode cX6_reached 26 = .ok (.goto 6, 3) := by decide +kernel
theorem dX6_reached_29 : decode cX6_reached 29 = .ok (.ldc2_w 135, 3) := by decide +kernel
theorem dX6_reached_32 : decode cX6_reached 32 = .ok (.lreturn, 1) := by decide +kernel
set_option maxRecDepth 20000 in
theorem dX6_fewest_0 : decode cX6_fewest 0 = .ok (.aload_n 0, 1) := by decide +kernel
theorem dX6_fewest_1 : decode cX6_fewest 1 = .ok (.iload_n 1, 1) := by decide +kernel
theorem dX6_fewest_2 : decode cX6_fewest 2 = .ok (.invokevirtual 65, 3) := by decide +kernel
theorem dX6_fewest_5 : decode cX6_fewest 5 = .ok (.ifCond .eq 10, 3) := by decide +kernel
theorem dX6_fewest_8 : decode cX6_fewest 8 = .ok (.iload_n 2, 1) := by decide +kernel
theorem dX6_fewest_9 : decode cX6_fewest 9 = .ok (.invokestatic 71, 3) := by decide +kernel
theorem dX6_fewest_12 : decode cX6_fewest 12 = .ok (.ifCond .ne 6, 3) := by decide +kernel
theorem dX6_fewest_15 : decode cX6_fewest 15 = .ok (.bipush (-2), 2) := by decide +kernel
theorem dX6_fewest_17 : decode cX6_fewest 17 = .ok (.ireturn, 1) := by decide +kernel
theorem dX6_fewest_18 : decode cX6_fewest 18 = .ok (.iconst 0, 1) := by decide +kernel
theorem dX6_fewest_19 : decode cX6_fewest 19 = .ok (.istore_n 3, 1) := by decide +kernel
theorem dX6_fewest_20 : decode cX6_fewest 20 = .ok (.iload_n 3, 1) := by decide +kernel
theorem dX6_fewest_21 : decode cX6_fewest 21 = .ok (.bipush 64, 2) := by decide +kernel
theorem dX6_fewest_23 : decode cX6_fewest 23 = .ok (.if_icmp .ge 22, 3) := by decide +kernel
theorem dX6_fewest_26 : decode cX6_fewest 26 = .ok (.aload_n 0, 1) := by decide +kernel
theorem dX6_fewest_27 : decode cX6_fewest 27 = .ok (.iload_n 1, 1) := by decide +kernel
theorem dX6_fewest_28 : decode cX6_fewest 28 = .ok (.iload_n 3, 1) := by decide +kernel
theorem dX6_fewest_29 : decode cX6_fewest 29 = .ok (.invokevirtual 399, 3) := by decide +kernel
theorem dX6_fewest_32 : decode cX6_fewest 32 = .ok (.iload_n 2, 1) := by decide +kernel
theorem dX6_fewest_33 : decode cX6_fewest 33 = .ok (.invokestatic 91, 3) := by decide +kernel
theorem dX6_fewest_36 : decode cX6_fewest 36 = .ok (.ifCond .ne 9, 3) := by decide +kernel
theorem dX6_fewest_39 : decode cX6_fewest 39 = .ok (.iinc 3 1, 3) := by decide +kernel
theorem dX6_fewest_42 : decode cX6_fewest 42 = .ok (.goto (-22), 3) := by decide +kernel
theorem dX6_fewest_45 : decode cX6_fewest 45 = .ok (.iload_n 3, 1) := by decide +kernel
theorem dX6_fewest_46 : decode cX6_fewest 46 = .ok (.bipush 64, 2) := by decide +kernel
theorem dX6_fewest_48 : decode cX6_fewest 48 = .ok (.if_icmp .ne 7, 3) := by decide +kernel
theorem dX6_fewest_51 : decode cX6_fewest 51 = .ok (.iconst (-1), 1) := by decide +kernel
theorem dX6_fewest_52 : decode cX6_fewest 52 = .ok (.goto 4, 3) := by decide +kernel
theorem dX6_fewest_55 : decode cX6_fewest 55 = .ok (.iload_n 3, 1) := by decide +kernel
theorem dX6_fewest_56 : decode cX6_fewest 56 = .ok (.ireturn, 1) := by decide +kernel
theorem dX6_tries_0 : decode cX6_tries 0 = .ok (.iload_n 2, 1) := by decide +kernel
theorem dX6_tries_1 : decode cX6_tries 1 = .ok (.aload_n 0, 1) := by decide +kernel
theorem dX6_tries_2 : decode cX6_tries 2 = .ok (.getfield 403, 3) := by decide +kernel
theorem dX6_tries_5 : decode cX6_tries 5 = .ok (.if_icmp .le 13, 3) := by decide +kernel
theorem dX6_tries_8 : decode cX6_tries 8 = .ok (.aload_n 0, 1) := by decide +kernel
theorem dX6_tries_9 : decode cX6_tries 9 = .ok (.iload_n 1, 1) := by decide +kernel
theorem dX6_tries_10 : decode cX6_tries 10 = .ok (.putfield 406, 3) := by decide +kernel
theorem dX6_tries_13 : decode cX6_tries 13 = .ok (.aload_n 0, 1) := by decide +kernel
theorem dX6_tries_14 : decode cX6_tries 14 = .ok (.iload_n 2, 1) := by decide +kernel
theorem dX6_tries_15 : decode cX6_tries 15 = .ok (.putfield 403, 3) := by decide +kernel
theorem dX6_tries_18 : decode cX6_tries 18 = .ok (.return_, 1) := by decide +kernel
set_option maxRecDepth 20000 in
theorem dX6_triesTile_0 : decode cX6_triesTile 0 = .ok (.aload_n 0, 1) := by decide +kernel
theorem dX6_triesTile_1 : decode cX6_triesTile 1 = .ok (.getfield 106, 3) := by decide +kernel
theorem dX6_triesTile_4 : decode cX6_triesTile 4 = .ok (.lstore 5, 2) := by decide +kernel
theorem dX6_triesTile_6 : decode cX6_triesTile 6 = .ok (.aload_n 0, 1) := by decide +kernel
theorem dX6_triesTile_7 : decode cX6_triesTile 7 = .ok (.getfield 87, 3) := by decide +kernel
theorem dX6_triesTile_10 : decode cX6_triesTile 10 = .ok (.lstore 7, 2) := by decide +kernel
theorem dX6_triesTile_12 : decode cX6_triesTile 12 = .ok (.aload_n 0, 1) := by decide +kernel
theorem dX6_triesTile_13 : decode cX6_triesTile 13 = .ok (.getfield 87, 3) := by decide +kernel
theorem dX6_triesTile_16 : decode cX6_triesTile 16 = .ok (.iload_n 2, 1) := by decide +kernel
theorem dX6_triesTile_17 : decode cX6_triesTile 17 = .ok (.invokestatic 91, 3) := by decide +kernel
theorem dX6_triesTile_20 : decode cX6_triesTile 20 = .ok (.ifCond .ne 34, 3) := by decide +kernel
theorem dX6_triesTile_23 : decode cX6_triesTile 23 = .ok (.iload_n 1, 1) := by decide +kernel
theorem dX6_triesTile_24 : decode cX6_triesTile 24 = .ok (.iconst 1, 1) := by decide +kernel
theorem dX6_triesTile_25 : decode cX6_triesTile 25 = .ok (.if_icmp .ne 17, 3) := by decide +kernel
theorem dX6_triesTile_28 : decode cX6_triesTile 28 = .ok (.aload_n 0, 1) := by decide +kernel
theorem dX6_triesTile_29 : decode cX6_triesTile 29 = .ok (.getfield 106, 3) := by decide +kernel
theorem dX6_triesTile_32 : decode cX6_triesTile 32 = .ok (.iload_n 2, 1) := by decide +kernel
theorem dX6_triesTile_33 : decode cX6_triesTile 33 = .ok (.invokestatic 91, 3) := by decide +kernel
theorem dX6_triesTile_36 : decode cX6_triesTile 36 = .ok (.ifCond .ne 18, 3) := by decide +kernel
theorem dX6_triesTile_39 : decode cX6_triesTile 39 = .ok (.goto 11, 3) := by decide +kernel
theorem dX6_triesTile_42 : decode cX6_triesTile 42 = .ok (.aload_n 0, 1) := by decide +kernel
theorem dX6_triesTile_43 : decode cX6_triesTile 43 = .ok (.iload_n 2, 1) := by decide +kernel
theorem dX6_triesTile_44 : decode cX6_triesTile 44 = .ok (.invokevirtual 84, 3) := by decide +kernel
theorem dX6_triesTile_47 : decode cX6_triesTile 47 = .ok (.ifCond .ne 7, 3) := by decide +kernel
theorem dX6_triesTile_50 : decode cX6_triesTile 50 = .ok (.iconst 1, 1) := by decide +kernel
theorem dX6_triesTile_51 : decode cX6_triesTile 51 = .ok (.goto 4, 3) := by decide +kernel
theorem dX6_triesTile_54 : decode cX6_triesTile 54 = .ok (.iconst 0, 1) := by decide +kernel
theorem dX6_triesTile_55 : decode cX6_triesTile 55 = .ok (.istore 9, 2) := by decide +kernel
theorem dX6_triesTile_57 : decode cX6_triesTile 57 = .ok (.iload 9, 2) := by decide +kernel
theorem dX6_triesTile_59 : decode cX6_triesTile 59 = .ok (.ifCond .eq 73, 3) := by decide +kernel
theorem dX6_triesTile_62 : decode cX6_triesTile 62 = .ok (.aload_n 0, 1) := by decide +kernel
theorem dX6_triesTile_63 : decode cX6_triesTile 63 = .ok (.dup, 1) := by decide +kernel
theorem dX6_triesTile_64 : decode cX6_triesTile 64 = .ok (.getfield 106, 3) := by decide +kernel
theorem dX6_triesTile_67 : decode cX6_triesTile 67 = .ok (.iload_n 1, 1) := by decide +kernel
theorem dX6_triesTile_68 : decode cX6_triesTile 68 = .ok (.iconst 1, 1) := by decide +kernel
theorem dX6_triesTile_69 : decode cX6_triesTile 69 = .ok (.if_icmp .ne 9, 3) := by decide +kernel
theorem dX6_triesTile_72 : decode cX6_triesTile 72 = .ok (.lconst 1, 1) := by decide +kernel
theorem dX6_triesTile_73 : decode cX6_triesTile 73 = .ok (.iload_n 2, 1) := by decide +kernel
theorem dX6_triesTile_74 : decode cX6_triesTile 74 = .ok (.lshl, 1) := by decide +kernel
theorem dX6_triesTile_75 : decode cX6_triesTile 75 = .ok (.goto 4, 3) := by decide +kernel
theorem dX6_triesTile_78 : decode cX6_triesTile 78 = .ok (.lconst 0, 1) := by decide +kernel
theorem dX6_triesTile_79 : decode cX6_triesTile 79 = .ok (.lor, 1) := by decide +kernel
theorem dX6_triesTile_80 : decode cX6_triesTile 80 = .ok (.putfield 106, 3) := by decide +kernel
theorem dX6_triesTile_83 : decode cX6_triesTile 83 = .ok (.aload_n 0, 1) := by decide +kernel
theorem dX6_triesTile_84 : decode cX6_triesTile 84 = .ok (.dup, 1) := by decide +kernel
theorem dX6_triesTile_85 : decode cX6_triesTile 85 = .ok (.getfield 87, 3) := by decide +kernel
theorem dX6_triesTile_88 : decode cX6_triesTile 88 = .ok (.iload_n 1, 1) := by decide +kernel
theorem dX6_triesTile_89 : decode cX6_triesTile 89 = .ok (.iconst 2, 1) := by decide +kernel
theorem dX6_triesTile_90 : decode cX6_triesTile 90 = .ok (.if_icmp .ne 9, 3) := by decide +kernel
theorem dX6_triesTile_93 : decode cX6_triesTile 93 = .ok (.lconst 1, 1) := by decide +kernel
theorem dX6_triesTile_94 : decode cX6_triesTile 94 = .ok (.iload_n 2, 1) := by decide +kernel
theorem dX6_triesTile_95 : decode cX6_triesTile 95 = .ok (.lshl, 1) := by decide +kernel
theorem dX6_triesTile_96 : decode cX6_triesTile 96 = .ok (.goto 4, 3) := by decide +kernel
theorem dX6_triesTile_99 : decode cX6_triesTile 99 = .ok (.lconst 0, 1) := by decide +kernel
theorem dX6_triesTile_100 : decode cX6_triesTile 100 = .ok (.lor, 1) := by decide +kernel
theorem dX6_triesTile_101 : decode cX6_triesTile 101 = .ok (.putfield 87, 3) := by decide +kernel
theorem dX6_triesTile_104 : decode cX6_triesTile 104 = .ok (.aload_n 0, 1) := by decide +kernel
theorem dX6_triesTile_105 : decode cX6_triesTile 105 = .ok (.iload_n 3, 1) := by decide +kernel
theorem dX6_triesTile_106 : decode cX6_triesTile 106 = .ok (.iload 4, 2) := by decide +kernel
theorem dX6_triesTile_108 : decode cX6_triesTile 108 = .ok (.invokevirtual 393, 3) := by decide +kernel
theorem dX6_triesTile_111 : decode cX6_triesTile 111 = .ok (.istore 10, 2) := by decide +kernel
theorem dX6_triesTile_113 : decode cX6_triesTile 113 = .ok (.aload_n 0, 1) := by decide +kernel
theorem dX6_triesTile_114 : decode cX6_triesTile 114 = .ok (.lload 5, 2) := by decide +kernel
theorem dX6_triesTile_116 : decode cX6_triesTile 116 = .ok (.putfield 106, 3) := by decide +kernel
theorem dX6_triesTile_119 : decode cX6_triesTile 119 = .ok (.aload_n 0, 1) := by decide +kernel
theorem dX6_triesTile_120 : decode cX6_triesTile 120 = .ok (.lload 7, 2) := by decide +kernel
theorem dX6_triesTile_122 : decode cX6_triesTile 122 = .ok (.putfield 87, 3) := by decide +kernel
theorem dX6_triesTile_125 : decode cX6_triesTile 125 = .ok (.aload_n 0, 1) := by decide +kernel
theorem dX6_triesTile_126 : decode cX6_triesTile 126 = .ok (.iload_n 2, 1) := by decide +kernel
theorem dX6_triesTile_127 : decode cX6_triesTile 127 = .ok (.iload 10, 2) := by decide +kernel
theorem dX6_triesTile_129 : decode cX6_triesTile 129 = .ok (.invokevirtual 409, 3) := by decide +kernel
theorem dX6_triesTile_132 : decode cX6_triesTile 132 = .ok (.return_, 1) := by decide +kernel
set_option maxRecDepth 20000 in
theorem dX6_best_0 : decode cX6_best 0 = .ok (.iload_n 1, 1) := by decide +kernel
theorem dX6_best_1 : decode cX6_best 1 = .ok (.i2l, 1) := by decide +kernel
theorem dX6_best_2 : decode cX6_best 2 = .ok (.lconst 0, 1) := by decide +kernel
theorem dX6_best_3 : decode cX6_best 3 = .ok (.ldc2_w 133, 3) := by decide +kernel
theorem dX6_best_6 : decode cX6_best 6 = .ok (.invokestatic 61, 3) := by decide +kernel
theorem dX6_best_9 : decode cX6_best 9 = .ok (.ifCond .eq 27, 3) := by decide +kernel
theorem dX6_best_12 : decode cX6_best 12 = .ok (.iload_n 2, 1) := by decide +kernel
theorem dX6_best_13 : decode cX6_best 13 = .ok (.i2l, 1) := by decide +kernel
theorem dX6_best_14 : decode cX6_best 14 = .ok (.lconst 1, 1) := by decide +kernel
theorem dX6_best_15 : decode cX6_best 15 = .ok (.ldc2_w 413, 3) := by decide +kernel
theorem dX6_best_18 : decode cX6_best 18 = .ok (.invokestatic 61, 3) := by decide +kernel
theorem dX6_best_21 : decode cX6_best 21 = .ok (.ifCond .eq 15, 3) := by decide +kernel
theorem dX6_best_24 : decode cX6_best 24 = .ok (.iload_n 3, 1) := by decide +kernel
theorem dX6_best_25 : decode cX6_best 25 = .ok (.i2l, 1) := by decide +kernel
theorem dX6_best_26 : decode cX6_best 26 = .ok (.lconst 0, 1) := by decide +kernel
theorem dX6_best_27 : decode cX6_best 27 = .ok (.ldc2_w 74, 3) := by decide +kernel
theorem dX6_best_30 : decode cX6_best 30 = .ok (.invokestatic 61, 3) := by decide +kernel
theorem dX6_best_33 : decode cX6_best 33 = .ok (.ifCond .ne 6, 3) := by decide +kernel
theorem dX6_best_36 : decode cX6_best 36 = .ok (.bipush (-2), 2) := by decide +kernel
theorem dX6_best_38 : decode cX6_best 38 = .ok (.ireturn, 1) := by decide +kernel
theorem dX6_best_39 : decode cX6_best 39 = .ok (.aload_n 0, 1) := by decide +kernel
theorem dX6_best_40 : decode cX6_best 40 = .ok (.iconst (-1), 1) := by decide +kernel
theorem dX6_best_41 : decode cX6_best 41 = .ok (.putfield 406, 3) := by decide +kernel
theorem dX6_best_44 : decode cX6_best 44 = .ok (.aload_n 0, 1) := by decide +kernel
theorem dX6_best_45 : decode cX6_best 45 = .ok (.aload_n 0, 1) := by decide +kernel
theorem dX6_best_46 : decode cX6_best 46 = .ok (.iload_n 1, 1) := by decide +kernel
theorem dX6_best_47 : decode cX6_best 47 = .ok (.iload_n 2, 1) := by decide +kernel
theorem dX6_best_48 : decode cX6_best 48 = .ok (.invokevirtual 393, 3) := by decide +kernel
theorem dX6_best_51 : decode cX6_best 51 = .ok (.putfield 403, 3) := by decide +kernel
theorem dX6_best_54 : decode cX6_best 54 = .ok (.iconst 0, 1) := by decide +kernel
theorem dX6_best_55 : decode cX6_best 55 = .ok (.istore 4, 2) := by decide +kernel
theorem dX6_best_57 : decode cX6_best 57 = .ok (.iload 4, 2) := by decide +kernel
theorem dX6_best_59 : decode cX6_best 59 = .ok (.aload_n 0, 1) := by decide +kernel
theorem dX6_best_60 : decode cX6_best 60 = .ok (.getfield 58, 3) := by decide +kernel
theorem dX6_best_63 : decode cX6_best 63 = .ok (.if_icmp .ge 41, 3) := by decide +kernel
theorem dX6_best_66 : decode cX6_best 66 = .ok (.iload_n 3, 1) := by decide +kernel
theorem dX6_best_67 : decode cX6_best 67 = .ok (.iconst 2, 1) := by decide +kernel
theorem dX6_best_68 : decode cX6_best 68 = .ok (.if_icmp .ge 36, 3) := by decide +kernel
theorem dX6_best_71 : decode cX6_best 71 = .ok (.aload_n 0, 1) := by decide +kernel
theorem dX6_best_72 : decode cX6_best 72 = .ok (.iload 4, 2) := by decide +kernel
theorem dX6_best_74 : decode cX6_best 74 = .ok (.putfield 26, 3) := by decide +kernel
theorem dX6_best_77 : decode cX6_best 77 = .ok (.aload_n 0, 1) := by decide +kernel
theorem dX6_best_78 : decode cX6_best 78 = .ok (.iload_n 1, 1) := by decide +kernel
theorem dX6_best_79 : decode cX6_best 79 = .ok (.iload_n 2, 1) := by decide +kernel
theorem dX6_best_80 : decode cX6_best 80 = .ok (.invokevirtual 393, 3) := by decide +kernel
theorem dX6_best_83 : decode cX6_best 83 = .ok (.istore 5, 2) := by decide +kernel
theorem dX6_best_85 : decode cX6_best 85 = .ok (.aload_n 0, 1) := by decide +kernel
theorem dX6_best_86 : decode cX6_best 86 = .ok (.iconst (-1), 1) := by decide +kernel
theorem dX6_best_87 : decode cX6_best 87 = .ok (.putfield 26, 3) := by decide +kernel
theorem dX6_best_90 : decode cX6_best 90 = .ok (.aload_n 0, 1) := by decide +kernel
theorem dX6_best_91 : decode cX6_best 91 = .ok (.iload 4, 2) := by decide +kernel
theorem dX6_best_93 : decode cX6_best 93 = .ok (.iload 5, 2) := by decide +kernel
theorem dX6_best_95 : decode cX6_best 95 = .ok (.invokevirtual 409, 3) := by decide +kernel
theorem dX6_best_98 : decode cX6_best 98 = .ok (.iinc 4 1, 3) := by decide +kernel
theorem dX6_best_101 : decode cX6_best 101 = .ok (.goto (-44), 3) := by decide +kernel
theorem dX6_best_104 : decode cX6_best 104 = .ok (.iconst 0, 1) := by decide +kernel
theorem dX6_best_105 : decode cX6_best 105 = .ok (.istore 4, 2) := by decide +kernel
theorem dX6_best_107 : decode cX6_best 107 = .ok (.iload 4, 2) := by decide +kernel
theorem dX6_best_109 : decode cX6_best 109 = .ok (.bipush 64, 2) := by decide +kernel
theorem dX6_best_111 : decode cX6_best 111 = .ok (.if_icmp .ge 25, 3) := by decide +kernel
theorem dX6_best_114 : decode cX6_best 114 = .ok (.iload_n 3, 1) := by decide +kernel
theorem dX6_best_115 : decode cX6_best 115 = .ok (.iconst 1, 1) := by decide +kernel
theorem dX6_best_116 : decode cX6_best 116 = .ok (.if_icmp .le 20, 3) := by decide +kernel
theorem dX6_best_119 : decode cX6_best 119 = .ok (.aload_n 0, 1) := by decide +kernel
theorem dX6_best_120 : decode cX6_best 120 = .ok (.iload_n 3, 1) := by decide +kernel
theorem dX6_best_121 : decode cX6_best 121 = .ok (.iconst 2, 1) := by decide +kernel
theorem dX6_best_122 : decode cX6_best 122 = .ok (.idiv, 1) := by decide +kernel
theorem dX6_best_123 : decode cX6_best 123 = .ok (.iload 4, 2) := by decide +kernel
theorem dX6_best_125 : decode cX6_best 125 = .ok (.iload_n 1, 1) := by decide +kernel
theorem dX6_best_126 : decode cX6_best 126 = .ok (.iload_n 2, 1) := by decide +kernel
theorem dX6_best_127 : decode cX6_best 127 = .ok (.invokevirtual 415, 3) := by decide +kernel
theorem dX6_best_130 : decode cX6_best 130 = .ok (.iinc 4 1, 3) := by decide +kernel
theorem dX6_best_133 : decode cX6_best 133 = .ok (.goto (-26), 3) := by decide +kernel
theorem dX6_best_136 : decode cX6_best 136 = .ok (.iload_n 3, 1) := by decide +kernel
theorem dX6_best_137 : decode cX6_best 137 = .ok (.iconst 2, 1) := by decide +kernel
theorem dX6_best_138 : decode cX6_best 138 = .ok (.irem, 1) := by decide +kernel
theorem dX6_best_139 : decode cX6_best 139 = .ok (.ifCond .ne 10, 3) := by decide +kernel
theorem dX6_best_142 : decode cX6_best 142 = .ok (.aload_n 0, 1) := by decide +kernel
theorem dX6_best_143 : decode cX6_best 143 = .ok (.getfield 406, 3) := by decide +kernel
theorem dX6_best_146 : decode cX6_best 146 = .ok (.goto 7, 3) := by decide +kernel
theorem dX6_best_149 : decode cX6_best 149 = .ok (.aload_n 0, 1) := by decide +kernel
theorem dX6_best_150 : decode cX6_best 150 = .ok (.getfield 403, 3) := by decide +kernel
theorem dX6_best_153 : decode cX6_best 153 = .ok (.ireturn, 1) := by decide +kernel
theorem dX6_lowest_0 : decode cX6_lowest 0 = .ok (.lload_n 0, 1) := by decide +kernel
theorem dX6_lowest_1 : decode cX6_lowest 1 = .ok (.lstore 5, 2) := by decide +kernel
theorem dX6_lowest_3 : decode cX6_lowest 3 = .ok (.lload_n 2, 1) := by decide +kernel
theorem dX6_lowest_4 : decode cX6_lowest 4 = .ok (.lstore 7, 2) := by decide +kernel
theorem dX6_lowest_6 : decode cX6_lowest 6 = .ok (.lload 7, 2) := by decide +kernel
theorem dX6_lowest_8 : decode cX6_lowest 8 = .ok (.lconst 0, 1) := by decide +kernel
theorem dX6_lowest_9 : decode cX6_lowest 9 = .ok (.lcmp, 1) := by decide +kernel
theorem dX6_lowest_10 : decode cX6_lowest 10 = .ok (.ifCond .eq 21, 3) := by decide +kernel
theorem dX6_lowest_13 : decode cX6_lowest 13 = .ok (.lload 5, 2) := by decide +kernel
theorem dX6_lowest_15 : decode cX6_lowest 15 = .ok (.lload 7, 2) := by decide +kernel
theorem dX6_lowest_17 : decode cX6_lowest 17 = .ok (.lrem, 1) := by decide +kernel
theorem dX6_lowest_18 : decode cX6_lowest 18 = .ok (.lstore 9, 2) := by decide +kernel
theorem dX6_lowest_20 : decode cX6_lowest 20 = .ok (.lload 7, 2) := by decide +kernel
theorem dX6_lowest_22 : decode cX6_lowest 22 = .ok (.lstore 5, 2) := by decide +kernel
theorem dX6_lowest_24 : decode cX6_lowest 24 = .ok (.lload 9, 2) := by decide +kernel
theorem dX6_lowest_26 : decode cX6_lowest 26 = .ok (.lstore 7, 2) := by decide +kernel
theorem dX6_lowest_28 : decode cX6_lowest 28 = .ok (.goto (-22), 3) := by decide +kernel
theorem dX6_lowest_31 : decode cX6_lowest 31 = .ok (.iload 4, 2) := by decide +kernel
theorem dX6_lowest_33 : decode cX6_lowest 33 = .ok (.ifCond .ne 10, 3) := by decide +kernel
theorem dX6_lowest_36 : decode cX6_lowest 36 = .ok (.lload_n 0, 1) := by decide +kernel
theorem dX6_lowest_37 : decode cX6_lowest 37 = .ok (.lload 5, 2) := by decide +kernel
theorem dX6_lowest_39 : decode cX6_lowest 39 = .ok (.ldiv, 1) := by decide +kernel
theorem dX6_lowest_40 : decode cX6_lowest 40 = .ok (.goto 7, 3) := by decide +kernel
theorem dX6_lowest_43 : decode cX6_lowest 43 = .ok (.lload_n 2, 1) := by decide +kernel
theorem dX6_lowest_44 : decode cX6_lowest 44 = .ok (.lload 5, 2) := by decide +kernel
theorem dX6_lowest_46 : decode cX6_lowest 46 = .ok (.ldiv, 1) := by decide +kernel
theorem dX6_lowest_47 : decode cX6_lowest 47 = .ok (.lreturn, 1) := by decide +kernel
set_option maxRecDepth 20000 in
theorem dX6_mean_0 : decode cX6_mean 0 = .ok (.iload_n 1, 1) := by decide +kernel
theorem dX6_mean_1 : decode cX6_mean 1 = .ok (.i2l, 1) := by decide +kernel
theorem dX6_mean_2 : decode cX6_mean 2 = .ok (.lconst 0, 1) := by decide +kernel
theorem dX6_mean_3 : decode cX6_mean 3 = .ok (.lconst 1, 1) := by decide +kernel
theorem dX6_mean_4 : decode cX6_mean 4 = .ok (.invokestatic 61, 3) := by decide +kernel
theorem dX6_mean_7 : decode cX6_mean 7 = .ok (.ifCond .eq 10, 3) := by decide +kernel
theorem dX6_mean_10 : decode cX6_mean 10 = .ok (.aload_n 0, 1) := by decide +kernel
theorem dX6_mean_11 : decode cX6_mean 11 = .ok (.getfield 58, 3) := by decide +kernel
theorem dX6_mean_14 : decode cX6_mean 14 = .ok (.ifCond .ne 7, 3) := by decide +kernel
theorem dX6_mean_17 : decode cX6_mean 17 = .ok (.ldc2_w 135, 3) := by decide +kernel
theorem dX6_mean_20 : decode cX6_mean 20 = .ok (.lreturn, 1) := by decide +kernel
theorem dX6_mean_21 : decode cX6_mean 21 = .ok (.iconst 0, 1) := by decide +kernel
theorem dX6_mean_22 : decode cX6_mean 22 = .ok (.istore_n 2, 1) := by decide +kernel
theorem dX6_mean_23 : decode cX6_mean 23 = .ok (.iconst 0, 1) := by decide +kernel
theorem dX6_mean_24 : decode cX6_mean 24 = .ok (.istore_n 3, 1) := by decide +kernel
theorem dX6_mean_25 : decode cX6_mean 25 = .ok (.iload_n 3, 1) := by decide +kernel
theorem dX6_mean_26 : decode cX6_mean 26 = .ok (.aload_n 0, 1) := by decide +kernel
theorem dX6_mean_27 : decode cX6_mean 27 = .ok (.getfield 58, 3) := by decide +kernel
theorem dX6_mean_30 : decode cX6_mean 30 = .ok (.if_icmp .ge 22, 3) := by decide +kernel
theorem dX6_mean_33 : decode cX6_mean 33 = .ok (.iload_n 2, 1) := by decide +kernel
theorem dX6_mean_34 : decode cX6_mean 34 = .ok (.aload_n 0, 1) := by decide +kernel
theorem dX6_mean_35 : decode cX6_mean 35 = .ok (.getfield 23, 3) := by decide +kernel
theorem dX6_mean_38 : decode cX6_mean 38 = .ok (.iconst 4, 1) := by decide +kernel
theorem dX6_mean_39 : decode cX6_mean 39 = .ok (.iload_n 3, 1) := by decide +kernel
theorem dX6_mean_40 : decode cX6_mean 40 = .ok (.imul, 1) := by decide +kernel
theorem dX6_mean_41 : decode cX6_mean 41 = .ok (.iconst 2, 1) := by decide +kernel
theorem dX6_mean_42 : decode cX6_mean 42 = .ok (.iadd, 1) := by decide +kernel
theorem dX6_mean_43 : decode cX6_mean 43 = .ok (.iaload, 1) := by decide +kernel
theorem dX6_mean_44 : decode cX6_mean 44 = .ok (.iadd, 1) := by decide +kernel
theorem dX6_mean_45 : decode cX6_mean 45 = .ok (.istore_n 2, 1) := by decide +kernel
theorem dX6_mean_46 : decode cX6_mean 46 = .ok (.iinc 3 1, 3) := by decide +kernel
theorem dX6_mean_49 : decode cX6_mean 49 = .ok (.goto (-24), 3) := by decide +kernel
theorem dX6_mean_52 : decode cX6_mean 52 = .ok (.iload_n 2, 1) := by decide +kernel
theorem dX6_mean_53 : decode cX6_mean 53 = .ok (.i2l, 1) := by decide +kernel
theorem dX6_mean_54 : decode cX6_mean 54 = .ok (.aload_n 0, 1) := by decide +kernel
theorem dX6_mean_55 : decode cX6_mean 55 = .ok (.getfield 58, 3) := by decide +kernel
theorem dX6_mean_58 : decode cX6_mean 58 = .ok (.i2l, 1) := by decide +kernel
theorem dX6_mean_59 : decode cX6_mean 59 = .ok (.iload_n 1, 1) := by decide +kernel
theorem dX6_mean_60 : decode cX6_mean 60 = .ok (.invokestatic 419, 3) := by decide +kernel
theorem dX6_mean_63 : decode cX6_mean 63 = .ok (.lreturn, 1) := by decide +kernel
set_option maxRecDepth 20000 in
theorem dX6_firstOther_0 : decode cX6_firstOther 0 = .ok (.aload_n 0, 1) := by decide +kernel
theorem dX6_firstOther_1 : decode cX6_firstOther 1 = .ok (.invokevirtual 376, 3) := by decide +kernel
theorem dX6_firstOther_4 : decode cX6_firstOther 4 = .ok (.iconst (-1), 1) := by decide +kernel
theorem dX6_firstOther_5 : decode cX6_firstOther 5 = .ok (.istore_n 3, 1) := by decide +kernel
theorem dX6_firstOther_6 : decode cX6_firstOther 6 = .ok (.iconst 0, 1) := by decide +kernel
theorem dX6_firstOther_7 : decode cX6_firstOther 7 = .ok (.istore 4, 2) := by decide +kernel
theorem dX6_firstOther_9 : decode cX6_firstOther 9 = .ok (.iload 4, 2) := by decide +kernel
theorem dX6_firstOther_11 : decode cX6_firstOther 11 = .ok (.aload_n 0, 1) := by decide +kernel
theorem dX6_firstOther_12 : decode cX6_firstOther 12 = .ok (.getfield 45, 3) := by decide +kernel
theorem dX6_firstOther_15 : decode cX6_firstOther 15 = .ok (.iload_n 1, 1) := by decide +kernel
theorem dX6_firstOther_16 : decode cX6_firstOther 16 = .ok (.iaload, 1) := by decide +kernel
theorem dX6_firstOther_17 : decode cX6_firstOther 17 = .ok (.if_icmp .ge 46, 3) := by decide +kernel
theorem dX6_firstOther_20 : decode cX6_firstOther 20 = .ok (.iload_n 3, 1) := by decide +kernel
theorem dX6_firstOther_21 : decode cX6_firstOther 21 = .ok (.iconst (-1), 1) := by decide +kernel
theorem dX6_firstOther_22 : decode cX6_firstOther 22 = .ok (.if_icmp .ne 41, 3) := by decide +kernel
theorem dX6_firstOther_25 : decode cX6_firstOther 25 = .ok (.aload_n 0, 1) := by decide +kernel
theorem dX6_firstOther_26 : decode cX6_firstOther 26 = .ok (.invokevirtual 373, 3) := by decide +kernel
theorem dX6_firstOther_29 : decode cX6_firstOther 29 = .ok (.pop, 1) := by decide +kernel
theorem dX6_firstOther_30 : decode cX6_firstOther 30 = .ok (.aload_n 0, 1) := by decide +kernel
theorem dX6_firstOther_31 : decode cX6_firstOther 31 = .ok (.iload_n 2, 1) := by decide +kernel
theorem dX6_firstOther_32 : decode cX6_firstOther 32 = .ok (.invokevirtual 130, 3) := by decide +kernel
theorem dX6_firstOther_35 : decode cX6_firstOther 35 = .ok (.aload_n 0, 1) := by decide +kernel
theorem dX6_firstOther_36 : decode cX6_firstOther 36 = .ok (.getfield 48, 3) := by decide +kernel
theorem dX6_firstOther_39 : decode cX6_firstOther 39 = .ok (.bipush 40, 2) := by decide +kernel
theorem dX6_firstOther_41 : decode cX6_firstOther 41 = .ok (.iload_n 1, 1) := by decide +kernel
theorem dX6_firstOther_42 : decode cX6_firstOther 42 = .ok (.imul, 1) := by decide +kernel
theorem dX6_firstOther_43 : decode cX6_firstOther 43 = .ok (.iload 4, 2) := by decide +kernel
theorem dX6_firstOther_45 : decode cX6_firstOther 45 = .ok (.iadd, 1) := by decide +kernel
theorem dX6_firstOther_46 : decode cX6_firstOther 46 = .ok (.iaload, 1) := by decide +kernel
theorem dX6_firstOther_47 : decode cX6_firstOther 47 = .ok (.if_icmp .ne 7, 3) := by decide +kernel
theorem dX6_firstOther_50 : decode cX6_firstOther 50 = .ok (.iconst (-1), 1) := by decide +kernel
theorem dX6_firstOther_51 : decode cX6_firstOther 51 = .ok (.goto 5, 3) := by decide +kernel
theorem dX6_firstOther_54 : decode cX6_firstOther 54 = .ok (.iload 4, 2) := by decide +kernel
theorem dX6_firstOther_56 : decode cX6_firstOther 56 = .ok (.istore_n 3, 1) := by decide +kernel
theorem dX6_firstOther_57 : decode cX6_firstOther 57 = .ok (.iinc 4 1, 3) := by decide +kernel
theorem dX6_firstOther_60 : decode cX6_firstOther 60 = .ok (.goto (-51), 3) := by decide +kernel
theorem dX6_firstOther_63 : decode cX6_firstOther 63 = .ok (.aload_n 0, 1) := by decide +kernel
theorem dX6_firstOther_64 : decode cX6_firstOther 64 = .ok (.invokevirtual 386, 3) := by decide +kernel
theorem dX6_firstOther_67 : decode cX6_firstOther 67 = .ok (.iload_n 3, 1) := by decide +kernel
theorem dX6_firstOther_68 : decode cX6_firstOther 68 = .ok (.ireturn, 1) := by decide +kernel
set_option maxRecDepth 20000 in
theorem dX6_likeSet_0 : decode cX6_likeSet 0 = .ok (.iconst 0, 1) := by decide +kernel
theorem dX6_likeSet_1 : decode cX6_likeSet 1 = .ok (.istore_n 2, 1) := by decide +kernel
theorem dX6_likeSet_2 : decode cX6_likeSet 2 = .ok (.iconst 0, 1) := by decide +kernel
theorem dX6_likeSet_3 : decode cX6_likeSet 3 = .ok (.istore_n 3, 1) := by decide +kernel
theorem dX6_likeSet_4 : decode cX6_likeSet 4 = .ok (.iload_n 3, 1) := by decide +kernel
theorem dX6_likeSet_5 : decode cX6_likeSet 5 = .ok (.aload_n 0, 1) := by decide +kernel
theorem dX6_likeSet_6 : decode cX6_likeSet 6 = .ok (.getfield 58, 3) := by decide +kernel
theorem dX6_likeSet_9 : decode cX6_likeSet 9 = .ok (.if_icmp .ge 29, 3) := by decide +kernel
theorem dX6_likeSet_12 : decode cX6_likeSet 12 = .ok (.iload_n 2, 1) := by decide +kernel
theorem dX6_likeSet_13 : decode cX6_likeSet 13 = .ok (.aload_n 0, 1) := by decide +kernel
theorem dX6_likeSet_14 : decode cX6_likeSet 14 = .ok (.iload_n 1, 1) := by decide +kernel
theorem dX6_likeSet_15 : decode cX6_likeSet 15 = .ok (.iload_n 3, 1) := by decide +kernel
theorem dX6_likeSet_16 : decode cX6_likeSet 16 = .ok (.invokevirtual 423, 3) := by decide +kernel
theorem dX6_likeSet_19 : decode cX6_likeSet 19 = .ok (.iconst (-1), 1) := by decide +kernel
theorem dX6_likeSet_20 : decode cX6_likeSet 20 = .ok (.if_icmp .ne 7, 3) := by decide +kernel
theorem dX6_likeSet_23 : decode cX6_likeSet 23 = .ok (.iconst 1, 1) := by decide +kernel
theorem dX6_likeSet_24 : decode cX6_likeSet 24 = .ok (.goto 4, 3) := by decide +kernel
theorem dX6_likeSet_27 : decode cX6_likeSet 27 = .ok (.iconst 0, 1) := by decide +kernel
theorem dX6_likeSet_28 : decode cX6_likeSet 28 = .ok (.iload_n 3, 1) := by decide +kernel
theorem dX6_likeSet_29 : decode cX6_likeSet 29 = .ok (.ishl, 1) := by decide +kernel
theorem dX6_likeSet_30 : decode cX6_likeSet 30 = .ok (.ior, 1) := by decide +kernel
theorem dX6_likeSet_31 : decode cX6_likeSet 31 = .ok (.istore_n 2, 1) := by decide +kernel
theorem dX6_likeSet_32 : decode cX6_likeSet 32 = .ok (.iinc 3 1, 3) := by decide +kernel
theorem dX6_likeSet_35 : decode cX6_likeSet 35 = .ok (.goto (-31), 3) := by decide +kernel
theorem dX6_likeSet_38 : decode cX6_likeSet 38 = .ok (.iload_n 2, 1) := by decide +kernel
theorem dX6_likeSet_39 : decode cX6_likeSet 39 = .ok (.ireturn, 1) := by decide +kernel
set_option maxRecDepth 20000 in
theorem dX6_tells_0 : decode cX6_tells 0 = .ok (.iload_n 1, 1) := by decide +kernel
theorem dX6_tells_1 : decode cX6_tells 1 = .ok (.invokestatic 426, 3) := by decide +kernel
theorem dX6_tells_4 : decode cX6_tells 4 = .ok (.ifCond .eq 23, 3) := by decide +kernel
theorem dX6_tells_7 : decode cX6_tells 7 = .ok (.aload_n 0, 1) := by decide +kernel
theorem dX6_tells_8 : decode cX6_tells 8 = .ok (.iload_n 2, 1) := by decide +kernel
theorem dX6_tells_9 : decode cX6_tells 9 = .ok (.invokevirtual 65, 3) := by decide +kernel
theorem dX6_tells_12 : decode cX6_tells 12 = .ok (.ifCond .eq 15, 3) := by decide +kernel
theorem dX6_tells_15 : decode cX6_tells 15 = .ok (.iload_n 3, 1) := by decide +kernel
theorem dX6_tells_16 : decode cX6_tells 16 = .ok (.i2l, 1) := by decide +kernel
theorem dX6_tells_17 : decode cX6_tells 17 = .ok (.lconst 0, 1) := by decide +kernel
theorem dX6_tells_18 : decode cX6_tells 18 = .ok (.ldc2_w 429, 3) := by decide +kernel
theorem dX6_tells_21 : decode cX6_tells 21 = .ok (.invokestatic 61, 3) := by decide +kernel
theorem dX6_tells_24 : decode cX6_tells 24 = .ok (.ifCond .ne 6, 3) := by decide +kernel
theorem dX6_tells_27 : decode cX6_tells 27 = .ok (.bipush (-2), 2) := by decide +kernel
theorem dX6_tells_29 : decode cX6_tells 29 = .ok (.ireturn, 1) := by decide +kernel
theorem dX6_tells_30 : decode cX6_tells 30 = .ok (.aload_n 0, 1) := by decide +kernel
theorem dX6_tells_31 : decode cX6_tells 31 = .ok (.getfield 38, 3) := by decide +kernel
theorem dX6_tells_34 : decode cX6_tells 34 = .ok (.iload_n 1, 1) := by decide +kernel
theorem dX6_tells_35 : decode cX6_tells 35 = .ok (.baload, 1) := by decide +kernel
theorem dX6_tells_36 : decode cX6_tells 36 = .ok (.ifCond .ne 6, 3) := by decide +kernel
theorem dX6_tells_39 : decode cX6_tells 39 = .ok (.bipush (-11), 2) := by decide +kernel
theorem dX6_tells_41 : decode cX6_tells 41 = .ok (.ireturn, 1) := by decide +kernel
theorem dX6_tells_42 : decode cX6_tells 42 = .ok (.aload_n 0, 1) := by decide +kernel
theorem dX6_tells_43 : decode cX6_tells 43 = .ok (.getfield 45, 3) := by decide +kernel
theorem dX6_tells_46 : decode cX6_tells 46 = .ok (.iload_n 1, 1) := by decide +kernel
theorem dX6_tells_47 : decode cX6_tells 47 = .ok (.iaload, 1) := by decide +kernel
theorem dX6_tells_48 : decode cX6_tells 48 = .ok (.bipush 20, 2) := by decide +kernel
theorem dX6_tells_50 : decode cX6_tells 50 = .ok (.if_icmp .le 6, 3) := by decide +kernel
theorem dX6_tells_53 : decode cX6_tells 53 = .ok (.bipush (-2), 2) := by decide +kernel
theorem dX6_tells_55 : decode cX6_tells 55 = .ok (.ireturn, 1) := by decide +kernel
theorem dX6_tells_56 : decode cX6_tells 56 = .ok (.iload_n 3, 1) := by decide +kernel
theorem dX6_tells_57 : decode cX6_tells 57 = .ok (.ifCond .eq 9, 3) := by decide +kernel
theorem dX6_tells_60 : decode cX6_tells 60 = .ok (.iload_n 3, 1) := by decide +kernel
theorem dX6_tells_61 : decode cX6_tells 61 = .ok (.bipush 6, 2) := by decide +kernel
theorem dX6_tells_63 : decode cX6_tells 63 = .ok (.if_icmp .ne 22, 3) := by decide +kernel
theorem dX6_tells_66 : decode cX6_tells 66 = .ok (.iload_n 3, 1) := by decide +kernel
theorem dX6_tells_67 : decode cX6_tells 67 = .ok (.ifCond .ne 12, 3) := by decide +kernel
theorem dX6_tells_70 : decode cX6_tells 70 = .ok (.aload_n 0, 1) := by decide +kernel
theorem dX6_tells_71 : decode cX6_tells 71 = .ok (.iload_n 1, 1) := by decide +kernel
theorem dX6_tells_72 : decode cX6_tells 72 = .ok (.iload_n 2, 1) := by decide +kernel
theorem dX6_tells_73 : decode cX6_tells 73 = .ok (.invokevirtual 423, 3) := by decide +kernel
theorem dX6_tells_76 : decode cX6_tells 76 = .ok (.goto 8, 3) := by decide +kernel
theorem dX6_tells_79 : decode cX6_tells 79 = .ok (.aload_n 0, 1) := by decide +kernel
theorem dX6_tells_80 : decode cX6_tells 80 = .ok (.iload_n 1, 1) := by decide +kernel
theorem dX6_tells_81 : decode cX6_tells 81 = .ok (.invokevirtual 431, 3) := by decide +kernel
theorem dX6_tells_84 : decode cX6_tells 84 = .ok (.ireturn, 1) := by decide +kernel
theorem dX6_tells_85 : decode cX6_tells 85 = .ok (.iload_n 3, 1) := by decide +kernel
theorem dX6_tells_86 : decode cX6_tells 86 = .ok (.iconst 1, 1) := by decide +kernel
theorem dX6_tells_87 : decode cX6_tells 87 = .ok (.if_icmp .ne 8, 3) := by decide +kernel
theorem dX6_tells_90 : decode cX6_tells 90 = .ok (.bipush 6, 2) := by decide +kernel
theorem dX6_tells_92 : decode cX6_tells 92 = .ok (.goto 23, 3) := by decide +kernel
theorem dX6_tells_95 : decode cX6_tells 95 = .ok (.iload_n 3, 1) := by decide +kernel
theorem dX6_tells_96 : decode cX6_tells 96 = .ok (.iconst 2, 1) := by decide +kernel
theorem dX6_tells_97 : decode cX6_tells 97 = .ok (.if_icmp .ne 7, 3) := by decide +kernel
theorem dX6_tells_100 : decode cX6_tells 100 = .ok (.iconst 3, 1) := by decide +kernel
theorem dX6_tells_101 : decode cX6_tells 101 = .ok (.goto 14, 3) := by decide +kernel
theorem dX6_tells_104 : decode cX6_tells 104 = .ok (.iload_n 3, 1) := by decide +kernel
theorem dX6_tells_105 : decode cX6_tells 105 = .ok (.iconst 5, 1) := by decide +kernel
theorem dX6_tells_106 : decode cX6_tells 106 = .ok (.if_icmp .ne 8, 3) := by decide +kernel
theorem dX6_tells_109 : decode cX6_tells 109 = .ok (.bipush 7, 2) := by decide +kernel
theorem dX6_tells_111 : decode cX6_tells 111 = .ok (.goto 4, 3) := by decide +kernel
theorem dX6_tells_114 : decode cX6_tells 114 = .ok (.iconst 5, 1) := by decide +kernel
theorem dX6_tells_115 : decode cX6_tells 115 = .ok (.istore 4, 2) := by decide +kernel
theorem dX6_tells_117 : decode cX6_tells 117 = .ok (.iload 4, 2) := by decide +kernel
theorem dX6_tells_119 : decode cX6_tells 119 = .ok (.bipush 7, 2) := by decide +kernel
theorem dX6_tells_121 : decode cX6_tells 121 = .ok (.if_icmp .ne 10, 3) := by decide +kernel
theorem dX6_tells_124 : decode cX6_tells 124 = .ok (.aload_n 0, 1) := by decide +kernel
theorem dX6_tells_125 : decode cX6_tells 125 = .ok (.getfield 111, 3) := by decide +kernel
theorem dX6_tells_128 : decode cX6_tells 128 = .ok (.goto 10, 3) := by decide +kernel
theorem dX6_tells_131 : decode cX6_tells 131 = .ok (.aload_n 0, 1) := by decide +kernel
theorem dX6_tells_132 : decode cX6_tells 132 = .ok (.iload_n 2, 1) := by decide +kernel
theorem dX6_tells_133 : decode cX6_tells 133 = .ok (.iload 4, 2) := by decide +kernel
theorem dX6_tells_135 : decode cX6_tells 135 = .ok (.invokevirtual 95, 3) := by decide +kernel
theorem dX6_tells_138 : decode cX6_tells 138 = .ok (.istore 5, 2) := by decide +kernel
theorem dX6_tells_140 : decode cX6_tells 140 = .ok (.iload 4, 2) := by decide +kernel
theorem dX6_tells_142 : decode cX6_tells 142 = .ok (.bipush 7, 2) := by decide +kernel
theorem dX6_tells_144 : decode cX6_tells 144 = .ok (.if_icmp .ne 12, 3) := by decide +kernel
theorem dX6_tells_147 : decode cX6_tells 147 = .ok (.aload_n 0, 1) := by decide +kernel
theorem dX6_tells_148 : decode cX6_tells 148 = .ok (.getfield 55, 3) := by decide +kernel
theorem dX6_tells_151 : decode cX6_tells 151 = .ok (.iconst 1, 1) := by decide +kernel
theorem dX6_tells_152 : decode cX6_tells 152 = .ok (.isub, 1) := by decide +kernel
theorem dX6_tells_153 : decode cX6_tells 153 = .ok (.goto 27, 3) := by decide +kernel
theorem dX6_tells_156 : decode cX6_tells 156 = .ok (.iload 4, 2) := by decide +kernel
theorem dX6_tells_158 : decode cX6_tells 158 = .ok (.bipush 6, 2) := by decide +kernel
theorem dX6_tells_160 : decode cX6_tells 160 = .ok (.if_icmp .ne 7, 3) := by decide +kernel
theorem dX6_tells_163 : decode cX6_tells 163 = .ok (.iconst 5, 1) := by decide +kernel
theorem dX6_tells_164 : decode cX6_tells 164 = .ok (.goto 16, 3) := by decide +kernel
theorem dX6_tells_167 : decode cX6_tells 167 = .ok (.iload 4, 2) := by decide +kernel
theorem dX6_tells_169 : decode cX6_tells 169 = .ok (.iconst 3, 1) := by decide +kernel
theorem dX6_tells_170 : decode cX6_tells 170 = .ok (.if_icmp .ne 8, 3) := by decide +kernel
theorem dX6_tells_173 : decode cX6_tells 173 = .ok (.bipush 9, 2) := by decide +kernel
theorem dX6_tells_175 : decode cX6_tells 175 = .ok (.goto 5, 3) := by decide +kernel
theorem dX6_tells_178 : decode cX6_tells 178 = .ok (.bipush 99, 2) := by decide +kernel
theorem dX6_tells_180 : decode cX6_tells 180 = .ok (.istore 6, 2) := by decide +kernel
theorem dX6_tells_182 : decode cX6_tells 182 = .ok (.iconst 0, 1) := by decide +kernel
theorem dX6_tells_183 : decode cX6_tells 183 = .ok (.istore 7, 2) := by decide +kernel
theorem dX6_tells_185 : decode cX6_tells 185 = .ok (.iconst 0, 1) := by decide +kernel
theorem dX6_tells_186 : decode cX6_tells 186 = .ok (.istore 8, 2) := by decide +kernel
theorem dX6_tells_188 : decode cX6_tells 188 = .ok (.iconst (-1), 1) := by decide +kernel
theorem dX6_tells_189 : decode cX6_tells 189 = .ok (.istore 9, 2) := by decide +kernel
theorem dX6_tells_191 : decode cX6_tells 191 = .ok (.iload 6, 2) := by decide +kernel
theorem dX6_tells_193 : decode cX6_tells 193 = .ok (.istore 10, 2) := by decide +kernel
theorem dX6_tells_195 : decode cX6_tells 195 = .ok (.iload 10, 2) := by decide +kernel
theorem dX6_tells_197 : decode cX6_tells 197 = .ok (.ifCond .lt 55, 3) := by decide +kernel
theorem dX6_tells_200 : decode cX6_tells 200 = .ok (.aload_n 0, 1) := by decide +kernel
theorem dX6_tells_201 : decode cX6_tells 201 = .ok (.iload 4, 2) := by decide +kernel
theorem dX6_tells_203 : decode cX6_tells 203 = .ok (.iload_n 2, 1) := by decide +kernel
theorem dX6_tells_204 : decode cX6_tells 204 = .ok (.iload 10, 2) := by decide +kernel
theorem dX6_tells_206 : decode cX6_tells 206 = .ok (.invokevirtual 99, 3) := by decide +kernel
theorem dX6_tells_209 : decode cX6_tells 209 = .ok (.aload_n 0, 1) := by decide +kernel
theorem dX6_tells_210 : decode cX6_tells 210 = .ok (.iload_n 1, 1) := by decide +kernel
theorem dX6_tells_211 : decode cX6_tells 211 = .ok (.iload_n 2, 1) := by decide +kernel
theorem dX6_tells_212 : decode cX6_tells 212 = .ok (.invokevirtual 423, 3) := by decide +kernel
theorem dX6_tells_215 : decode cX6_tells 215 = .ok (.iconst (-1), 1) := by decide +kernel
theorem dX6_tells_216 : decode cX6_tells 216 = .ok (.if_icmp .ne 30, 3) := by decide +kernel
theorem dX6_tells_219 : decode cX6_tells 219 = .ok (.iload 7, 2) := by decide +kernel
theorem dX6_tells_221 : decode cX6_tells 221 = .ok (.iload 10, 2) := by decide +kernel
theorem dX6_tells_223 : decode cX6_tells 223 = .ok (.bipush 10, 2) := by decide +kernel
theorem dX6_tells_225 : decode cX6_tells 225 = .ok (.if_icmp .ge 10, 3) := by decide +kernel
theorem dX6_tells_228 : decode cX6_tells 228 = .ok (.iconst 1, 1) := by decide +kernel
theorem dX6_tells_229 : decode cX6_tells 229 = .ok (.iload 10, 2) := by decide +kernel
theorem dX6_tells_231 : decode cX6_tells 231 = .ok (.ishl, 1) := by decide +kernel
theorem dX6_tells_232 : decode cX6_tells 232 = .ok (.goto 4, 3) := by decide +kernel
theorem dX6_tells_235 : decode cX6_tells 235 = .ok (.iconst 0, 1) := by decide +kernel
theorem dX6_tells_236 : decode cX6_tells 236 = .ok (.ior, 1) := by decide +kernel
theorem dX6_tells_237 : decode cX6_tells 237 = .ok (.istore 7, 2) := by decide +kernel
theorem dX6_tells_239 : decode cX6_tells 239 = .ok (.iinc 8 1, 3) := by decide +kernel
theorem dX6_tells_242 : decode cX6_tells 242 = .ok (.iload 10, 2) := by decide +kernel
theorem dX6_tells_244 : decode cX6_tells 244 = .ok (.istore 9, 2) := by decide +kernel
theorem dX6_tells_246 : decode cX6_tells 246 = .ok (.iinc 10 (-1), 3) := by decide +kernel
theorem dX6_tells_249 : decode cX6_tells 249 = .ok (.goto (-54), 3) := by decide +kernel
theorem dX6_tells_252 : decode cX6_tells 252 = .ok (.aload_n 0, 1) := by decide +kernel
theorem dX6_tells_253 : decode cX6_tells 253 = .ok (.iload 4, 2) := by decide +kernel
theorem dX6_tells_255 : decode cX6_tells 255 = .ok (.iload_n 2, 1) := by decide +kernel
theorem dX6_tells_256 : decode cX6_tells 256 = .ok (.iload 5, 2) := by decide +kernel
theorem dX6_tells_258 : decode cX6_tells 258 = .ok (.invokevirtual 99, 3) := by decide +kernel
theorem dX6_tells_261 : decode cX6_tells 261 = .ok (.iload_n 3, 1) := by decide +kernel
theorem dX6_tells_262 : decode cX6_tells 262 = .ok (.iconst 3, 1) := by decide +kernel
theorem dX6_tells_263 : decode cX6_tells 263 = .ok (.if_icmp .ne 8, 3) := by decide +kernel
theorem dX6_tells_266 : decode cX6_tells 266 = .ok (.iload 8, 2) := by decide +kernel
theorem dX6_tells_268 : decode cX6_tells 268 = .ok (.goto 15, 3) := by decide +kernel
theorem dX6_tells_271 : decode cX6_tells 271 = .ok (.iload_n 3, 1) := by decide +kernel
theorem dX6_tells_272 : decode cX6_tells 272 = .ok (.iconst 4, 1) := by decide +kernel
theorem dX6_tells_273 : decode cX6_tells 273 = .ok (.if_icmp .ne 8, 3) := by decide +kernel
theorem dX6_tells_276 : decode cX6_tells 276 = .ok (.iload 9, 2) := by decide +kernel
theorem dX6_tells_278 : decode cX6_tells 278 = .ok (.goto 5, 3) := by decide +kernel
theorem dX6_tells_281 : decode cX6_tells 281 = .ok (.iload 7, 2) := by decide +kernel
theorem dX6_tells_283 : decode cX6_tells 283 = .ok (.ireturn, 1) := by decide +kernel
set_option maxRecDepth 20000 in
theorem dX6_stood_0 : decode cX6_stood 0 = .ok (.iload_n 1, 1) := by decide +kernel
theorem dX6_stood_1 : decode cX6_stood 1 = .ok (.invokestatic 426, 3) := by decide +kernel
theorem dX6_stood_4 : decode cX6_stood 4 = .ok (.ifCond .eq 31, 3) := by decide +kernel
theorem dX6_stood_7 : decode cX6_stood 7 = .ok (.aload_n 0, 1) := by decide +kernel
theorem dX6_stood_8 : decode cX6_stood 8 = .ok (.iload_n 2, 1) := by decide +kernel
theorem dX6_stood_9 : decode cX6_stood 9 = .ok (.invokevirtual 65, 3) := by decide +kernel
theorem dX6_stood_12 : decode cX6_stood 12 = .ok (.ifCond .eq 23, 3) := by decide +kernel
theorem dX6_stood_15 : decode cX6_stood 15 = .ok (.aload_n 0, 1) := by decide +kernel
theorem dX6_stood_16 : decode cX6_stood 16 = .ok (.getfield 38, 3) := by decide +kernel
theorem dX6_stood_19 : decode cX6_stood 19 = .ok (.iload_n 1, 1) := by decide +kernel
theorem dX6_stood_20 : decode cX6_stood 20 = .ok (.baload, 1) := by decide +kernel
theorem dX6_stood_21 : decode cX6_stood 21 = .ok (.ifCond .eq 14, 3) := by decide +kernel
theorem dX6_stood_24 : decode cX6_stood 24 = .ok (.aload_n 0, 1) := by decide +kernel
theorem dX6_stood_25 : decode cX6_stood 25 = .ok (.getfield 45, 3) := by decide +kernel
theorem dX6_stood_28 : decode cX6_stood 28 = .ok (.iload_n 1, 1) := by decide +kernel
theorem dX6_stood_29 : decode cX6_stood 29 = .ok (.iaload, 1) := by decide +kernel
theorem dX6_stood_30 : decode cX6_stood 30 = .ok (.bipush 20, 2) := by decide +kernel
theorem dX6_stood_32 : decode cX6_stood 32 = .ok (.if_icmp .le 7, 3) := by decide +kernel
theorem dX6_stood_35 : decode cX6_stood 35 = .ok (.ldc2_w 135, 3) := by decide +kernel
theorem dX6_stood_38 : decode cX6_stood 38 = .ok (.lreturn, 1) := by decide +kernel
theorem dX6_stood_39 : decode cX6_stood 39 = .ok (.aload_n 0, 1) := by decide +kernel
theorem dX6_stood_40 : decode cX6_stood 40 = .ok (.iload_n 2, 1) := by decide +kernel
theorem dX6_stood_41 : decode cX6_stood 41 = .ok (.invokevirtual 130, 3) := by decide +kernel
theorem dX6_stood_44 : decode cX6_stood 44 = .ok (.istore_n 3, 1) := by decide +kernel
theorem dX6_stood_45 : decode cX6_stood 45 = .ok (.lconst 0, 1) := by decide +kernel
theorem dX6_stood_46 : decode cX6_stood 46 = .ok (.lstore 4, 2) := by decide +kernel
theorem dX6_stood_48 : decode cX6_stood 48 = .ok (.iconst 0, 1) := by decide +kernel
theorem dX6_stood_49 : decode cX6_stood 49 = .ok (.istore 6, 2) := by decide +kernel
theorem dX6_stood_51 : decode cX6_stood 51 = .ok (.iload 6, 2) := by decide +kernel
theorem dX6_stood_53 : decode cX6_stood 53 = .ok (.bipush 64, 2) := by decide +kernel
theorem dX6_stood_55 : decode cX6_stood 55 = .ok (.if_icmp .ge 56, 3) := by decide +kernel
theorem dX6_stood_58 : decode cX6_stood 58 = .ok (.aload_n 0, 1) := by decide +kernel
theorem dX6_stood_59 : decode cX6_stood 59 = .ok (.getfield 23, 3) := by decide +kernel
theorem dX6_stood_62 : decode cX6_stood 62 = .ok (.iconst 4, 1) := by decide +kernel
theorem dX6_stood_63 : decode cX6_stood 63 = .ok (.iload_n 2, 1) := by decide +kernel
theorem dX6_stood_64 : decode cX6_stood 64 = .ok (.imul, 1) := by decide +kernel
theorem dX6_stood_65 : decode cX6_stood 65 = .ok (.iconst 1, 1) := by decide +kernel
theorem dX6_stood_66 : decode cX6_stood 66 = .ok (.iadd, 1) := by decide +kernel
theorem dX6_stood_67 : decode cX6_stood 67 = .ok (.iload 6, 2) := by decide +kernel
theorem dX6_stood_69 : decode cX6_stood 69 = .ok (.iastore, 1) := by decide +kernel
theorem dX6_stood_70 : decode cX6_stood 70 = .ok (.lload 4, 2) := by decide +kernel
theorem dX6_stood_72 : decode cX6_stood 72 = .ok (.aload_n 0, 1) := by decide +kernel
theorem dX6_stood_73 : decode cX6_stood 73 = .ok (.getfield 87, 3) := by decide +kernel
theorem dX6_stood_76 : decode cX6_stood 76 = .ok (.iload 6, 2) := by decide +kernel
theorem dX6_stood_78 : decode cX6_stood 78 = .ok (.invokestatic 91, 3) := by decide +kernel
theorem dX6_stood_81 : decode cX6_stood 81 = .ok (.ifCond .ne 20, 3) := by decide +kernel
theorem dX6_stood_84 : decode cX6_stood 84 = .ok (.aload_n 0, 1) := by decide +kernel
theorem dX6_stood_85 : decode cX6_stood 85 = .ok (.iload_n 1, 1) := by decide +kernel
theorem dX6_stood_86 : decode cX6_stood 86 = .ok (.iload_n 2, 1) := by decide +kernel
theorem dX6_stood_87 : decode cX6_stood 87 = .ok (.invokevirtual 423, 3) := by decide +kernel
theorem dX6_stood_90 : decode cX6_stood 90 = .ok (.iconst (-1), 1) := by decide +kernel
theorem dX6_stood_91 : decode cX6_stood 91 = .ok (.if_icmp .ne 10, 3) := by decide +kernel
theorem dX6_stood_94 : decode cX6_stood 94 = .ok (.lconst 1, 1) := by decide +kernel
theorem dX6_stood_95 : decode cX6_stood 95 = .ok (.iload 6, 2) := by decide +kernel
theorem dX6_stood_97 : decode cX6_stood 97 = .ok (.lshl, 1) := by decide +kernel
theorem dX6_stood_98 : decode cX6_stood 98 = .ok (.goto 4, 3) := by decide +kernel
theorem dX6_stood_101 : decode cX6_stood 101 = .ok (.lconst 0, 1) := by decide +kernel
theorem dX6_stood_102 : decode cX6_stood 102 = .ok (.lor, 1) := by decide +kernel
theorem dX6_stood_103 : decode cX6_stood 103 = .ok (.lstore 4, 2) := by decide +kernel
theorem dX6_stood_105 : decode cX6_stood 105 = .ok (.iinc 6 1, 3) := by decide +kernel
theorem dX6_stood_108 : decode cX6_stood 108 = .ok (.goto (-57), 3) := by decide +kernel
theorem dX6_stood_111 : decode cX6_stood 111 = .ok (.aload_n 0, 1) := by decide +kernel
theorem dX6_stood_112 : decode cX6_stood 112 = .ok (.getfield 23, 3) := by decide +kernel
theorem dX6_stood_115 : decode cX6_stood 115 = .ok (.iconst 4, 1) := by decide +kernel
theorem dX6_stood_116 : decode cX6_stood 116 = .ok (.iload_n 2, 1) := by decide +kernel
theorem dX6_stood_117 : decode cX6_stood 117 = .ok (.imul, 1) := by decide +kernel
theorem dX6_stood_118 : decode cX6_stood 118 = .ok (.iconst 1, 1) := by decide +kernel
theorem dX6_stood_119 : decode cX6_stood 119 = .ok (.iadd, 1) := by decide +kernel
theorem dX6_stood_120 : decode cX6_stood 120 = .ok (.iload_n 3, 1) := by decide +kernel
theorem dX6_stood_121 : decode cX6_stood 121 = .ok (.iastore, 1) := by decide +kernel
theorem dX6_stood_122 : decode cX6_stood 122 = .ok (.lload 4, 2) := by decide +kernel
theorem dX6_stood_124 : decode cX6_stood 124 = .ok (.lreturn, 1) := by decide +kernel
set_option maxRecDepth 20000 in
theorem dX6_film_0 : decode cX6_film 0 = .ok (.iload_n 1, 1) := by decide +kernel
theorem dX6_film_1 : decode cX6_film 1 = .ok (.invokestatic 426, 3) := by decide +kernel
theorem dX6_film_4 : decode cX6_film 4 = .ok (.ifCond .eq 23, 3) := by decide +kernel
theorem dX6_film_7 : decode cX6_film 7 = .ok (.aload_n 0, 1) := by decide +kernel
theorem dX6_film_8 : decode cX6_film 8 = .ok (.iload_n 2, 1) := by decide +kernel
theorem dX6_film_9 : decode cX6_film 9 = .ok (.invokevirtual 65, 3) := by decide +kernel
theorem dX6_film_12 : decode cX6_film 12 = .ok (.ifCond .eq 15, 3) := by decide +kernel
theorem dX6_film_15 : decode cX6_film 15 = .ok (.iload_n 3, 1) := by decide +kernel
theorem dX6_film_16 : decode cX6_film 16 = .ok (.i2l, 1) := by decide +kernel
theorem dX6_film_17 : decode cX6_film 17 = .ok (.lconst 0, 1) := by decide +kernel
theorem dX6_film_18 : decode cX6_film 18 = .ok (.ldc2_w 413, 3) := by decide +kernel
theorem dX6_film_21 : decode cX6_film 21 = .ok (.invokestatic 61, 3) := by decide +kernel
theorem dX6_film_24 : decode cX6_film 24 = .ok (.ifCond .ne 6, 3) := by decide +kernel
theorem dX6_film_27 : decode cX6_film 27 = .ok (.bipush (-2), 2) := by decide +kernel
theorem dX6_film_29 : decode cX6_film 29 = .ok (.ireturn, 1) := by decide +kernel
theorem dX6_film_30 : decode cX6_film 30 = .ok (.aload_n 0, 1) := by decide +kernel
theorem dX6_film_31 : decode cX6_film 31 = .ok (.iload_n 1, 1) := by decide +kernel
theorem dX6_film_32 : decode cX6_film 32 = .ok (.iconst 0, 1) := by decide +kernel
theorem dX6_film_33 : decode cX6_film 33 = .ok (.iload_n 3, 1) := by decide +kernel
theorem dX6_film_34 : decode cX6_film 34 = .ok (.invokevirtual 434, 3) := by decide +kernel
theorem dX6_film_37 : decode cX6_film 37 = .ok (.pop, 1) := by decide +kernel
theorem dX6_film_38 : decode cX6_film 38 = .ok (.aload_n 0, 1) := by decide +kernel
theorem dX6_film_39 : decode cX6_film 39 = .ok (.invokevirtual 376, 3) := by decide +kernel
theorem dX6_film_42 : decode cX6_film 42 = .ok (.iconst 0, 1) := by decide +kernel
theorem dX6_film_43 : decode cX6_film 43 = .ok (.istore 4, 2) := by decide +kernel
theorem dX6_film_45 : decode cX6_film 45 = .ok (.iload 4, 2) := by decide +kernel
theorem dX6_film_47 : decode cX6_film 47 = .ok (.iload_n 3, 1) := by decide +kernel
theorem dX6_film_48 : decode cX6_film 48 = .ok (.if_icmp .ge 31, 3) := by decide +kernel
theorem dX6_film_51 : decode cX6_film 51 = .ok (.aload_n 0, 1) := by decide +kernel
theorem dX6_film_52 : decode cX6_film 52 = .ok (.invokevirtual 373, 3) := by decide +kernel
theorem dX6_film_55 : decode cX6_film 55 = .ok (.pop, 1) := by decide +kernel
theorem dX6_film_56 : decode cX6_film 56 = .ok (.aload_n 0, 1) := by decide +kernel
theorem dX6_film_57 : decode cX6_film 57 = .ok (.getfield 48, 3) := by decide +kernel
theorem dX6_film_60 : decode cX6_film 60 = .ok (.bipush 40, 2) := by decide +kernel
theorem dX6_film_62 : decode cX6_film 62 = .ok (.iload_n 1, 1) := by decide +kernel
theorem dX6_film_63 : decode cX6_film 63 = .ok (.imul, 1) := by decide +kernel
theorem dX6_film_64 : decode cX6_film 64 = .ok (.iload 4, 2) := by decide +kernel
theorem dX6_film_66 : decode cX6_film 66 = .ok (.iadd, 1) := by decide +kernel
theorem dX6_film_67 : decode cX6_film 67 = .ok (.aload_n 0, 1) := by decide +kernel
theorem dX6_film_68 : decode cX6_film 68 = .ok (.iload_n 2, 1) := by decide +kernel
theorem dX6_film_69 : decode cX6_film 69 = .ok (.invokevirtual 130, 3) := by decide +kernel
theorem dX6_film_72 : decode cX6_film 72 = .ok (.iastore, 1) := by decide +kernel
theorem dX6_film_73 : decode cX6_film 73 = .ok (.iinc 4 1, 3) := by decide +kernel
theorem dX6_film_76 : decode cX6_film 76 = .ok (.goto (-31), 3) := by decide +kernel
theorem dX6_film_79 : decode cX6_film 79 = .ok (.aload_n 0, 1) := by decide +kernel
theorem dX6_film_80 : decode cX6_film 80 = .ok (.invokevirtual 386, 3) := by decide +kernel
theorem dX6_film_83 : decode cX6_film 83 = .ok (.iload_n 3, 1) := by decide +kernel
theorem dX6_film_84 : decode cX6_film 84 = .ok (.ireturn, 1) := by decide +kernel
set_option maxRecDepth 20000 in
theorem dX6_onDrawn_0 : decode cX6_onDrawn 0 = .ok (.iload_n 1, 1) := by decide +kernel
theorem dX6_onDrawn_1 : decode cX6_onDrawn 1 = .ok (.istore 4, 2) := by decide +kernel
theorem dX6_onDrawn_3 : decode cX6_onDrawn 3 = .ok (.aload_n 0, 1) := by decide +kernel
theorem dX6_onDrawn_4 : decode cX6_onDrawn 4 = .ok (.iload_n 2, 1) := by decide +kernel
theorem dX6_onDrawn_5 : decode cX6_onDrawn 5 = .ok (.invokevirtual 130, 3) := by decide +kernel
theorem dX6_onDrawn_8 : decode cX6_onDrawn 8 = .ok (.istore 5, 2) := by decide +kernel
theorem dX6_onDrawn_10 : decode cX6_onDrawn 10 = .ok (.iconst 0, 1) := by decide +kernel
theorem dX6_onDrawn_11 : decode cX6_onDrawn 11 = .ok (.istore 6, 2) := by decide +kernel
theorem dX6_onDrawn_13 : decode cX6_onDrawn 13 = .ok (.iload 6, 2) := by decide +kernel
theorem dX6_onDrawn_15 : decode cX6_onDrawn 15 = .ok (.iload_n 3, 1) := by decide +kernel
theorem dX6_onDrawn_16 : decode cX6_onDrawn 16 = .ok (.if_icmp .ge 53, 3) := by decide +kernel
theorem dX6_onDrawn_19 : decode cX6_onDrawn 19 = .ok (.iload 4, 2) := by decide +kernel
theorem dX6_onDrawn_21 : decode cX6_onDrawn 21 = .ok (.ldc_w 437, 3) := by decide +kernel
theorem dX6_onDrawn_24 : decode cX6_onDrawn 24 = .ok (.imul, 1) := by decide +kernel
theorem dX6_onDrawn_25 : decode cX6_onDrawn 25 = .ok (.sipush 12345, 3) := by decide +kernel
theorem dX6_onDrawn_28 : decode cX6_onDrawn 28 = .ok (.iadd, 1) := by decide +kernel
theorem dX6_onDrawn_29 : decode cX6_onDrawn 29 = .ok (.istore 4, 2) := by decide +kernel
theorem dX6_onDrawn_31 : decode cX6_onDrawn 31 = .ok (.aload_n 0, 1) := by decide +kernel
theorem dX6_onDrawn_32 : decode cX6_onDrawn 32 = .ok (.iload_n 2, 1) := by decide +kernel
theorem dX6_onDrawn_33 : decode cX6_onDrawn 33 = .ok (.iload 5, 2) := by decide +kernel
theorem dX6_onDrawn_35 : decode cX6_onDrawn 35 = .ok (.iload 4, 2) := by decide +kernel
theorem dX6_onDrawn_37 : decode cX6_onDrawn 37 = .ok (.bipush 9, 2) := by decide +kernel
theorem dX6_onDrawn_39 : decode cX6_onDrawn 39 = .ok (.iushr, 1) := by decide +kernel
theorem dX6_onDrawn_40 : decode cX6_onDrawn 40 = .ok (.bipush 8, 2) := by decide +kernel
theorem dX6_onDrawn_42 : decode cX6_onDrawn 42 = .ok (.irem, 1) := by decide +kernel
theorem dX6_onDrawn_43 : decode cX6_onDrawn 43 = .ok (.invokevirtual 370, 3) := by decide +kernel
theorem dX6_onDrawn_46 : decode cX6_onDrawn 46 = .ok (.istore 7, 2) := by decide +kernel
theorem dX6_onDrawn_48 : decode cX6_onDrawn 48 = .ok (.iload 7, 2) := by decide +kernel
theorem dX6_onDrawn_50 : decode cX6_onDrawn 50 = .ok (.iconst (-1), 1) := by decide +kernel
theorem dX6_onDrawn_51 : decode cX6_onDrawn 51 = .ok (.if_icmp .ne 8, 3) := by decide +kernel
theorem dX6_onDrawn_54 : decode cX6_onDrawn 54 = .ok (.iload 5, 2) := by decide +kernel
theorem dX6_onDrawn_56 : decode cX6_onDrawn 56 = .ok (.goto 5, 3) := by decide +kernel
theorem dX6_onDrawn_59 : decode cX6_onDrawn 59 = .ok (.iload 7, 2) := by decide +kernel
theorem dX6_onDrawn_61 : decode cX6_onDrawn 61 = .ok (.istore 5, 2) := by decide +kernel
theorem dX6_onDrawn_63 : decode cX6_onDrawn 63 = .ok (.iinc 6 1, 3) := by decide +kernel
theorem dX6_onDrawn_66 : decode cX6_onDrawn 66 = .ok (.goto (-53), 3) := by decide +kernel
theorem dX6_onDrawn_69 : decode cX6_onDrawn 69 = .ok (.iload 5, 2) := by decide +kernel
theorem dX6_onDrawn_71 : decode cX6_onDrawn 71 = .ok (.ireturn, 1) := by decide +kernel
set_option maxRecDepth 20000 in
theorem dX6_drawn_0 : decode cX6_drawn 0 = .ok (.aload_n 0, 1) := by decide +kernel
theorem dX6_drawn_1 : decode cX6_drawn 1 = .ok (.iload_n 2, 1) := by decide +kernel
theorem dX6_drawn_2 : decode cX6_drawn 2 = .ok (.invokevirtual 65, 3) := by decide +kernel
theorem dX6_drawn_5 : decode cX6_drawn 5 = .ok (.ifCond .eq 25, 3) := by decide +kernel
theorem dX6_drawn_8 : decode cX6_drawn 8 = .ok (.iload_n 3, 1) := by decide +kernel
theorem dX6_drawn_9 : decode cX6_drawn 9 = .ok (.i2l, 1) := by decide +kernel
theorem dX6_drawn_10 : decode cX6_drawn 10 = .ok (.lconst 0, 1) := by decide +kernel
theorem dX6_drawn_11 : decode cX6_drawn 11 = .ok (.ldc2_w 389, 3) := by decide +kernel
theorem dX6_drawn_14 : decode cX6_drawn 14 = .ok (.invokestatic 61, 3) := by decide +kernel
theorem dX6_drawn_17 : decode cX6_drawn 17 = .ok (.ifCond .eq 13, 3) := by decide +kernel
theorem dX6_drawn_20 : decode cX6_drawn 20 = .ok (.aload_n 0, 1) := by decide +kernel
theorem dX6_drawn_21 : decode cX6_drawn 21 = .ok (.iload_n 1, 1) := by decide +kernel
theorem dX6_drawn_22 : decode cX6_drawn 22 = .ok (.iload_n 2, 1) := by decide +kernel
theorem dX6_drawn_23 : decode cX6_drawn 23 = .ok (.iload_n 3, 1) := by decide +kernel
theorem dX6_drawn_24 : decode cX6_drawn 24 = .ok (.invokevirtual 438, 3) := by decide +kernel
theorem dX6_drawn_27 : decode cX6_drawn 27 = .ok (.goto 5, 3) := by decide +kernel
theorem dX6_drawn_30 : decode cX6_drawn 30 = .ok (.bipush (-2), 2) := by decide +kernel
theorem dX6_drawn_32 : decode cX6_drawn 32 = .ok (.ireturn, 1) := by decide +kernel
set_option maxRecDepth 20000 in
theorem dX6_chance_0 : decode cX6_chance 0 = .ok (.iload_n 2, 1) := by decide +kernel
theorem dX6_chance_1 : decode cX6_chance 1 = .ok (.i2l, 1) := by decide +kernel
theorem dX6_chance_2 : decode cX6_chance 2 = .ok (.lconst 1, 1) := by decide +kernel
theorem dX6_chance_3 : decode cX6_chance 3 = .ok (.ldc2_w 389, 3) := by decide +kernel
theorem dX6_chance_6 : decode cX6_chance 6 = .ok (.invokestatic 61, 3) := by decide +kernel
theorem dX6_chance_9 : decode cX6_chance 9 = .ok (.ifCond .eq 22, 3) := by decide +kernel
theorem dX6_chance_12 : decode cX6_chance 12 = .ok (.aload_n 0, 1) := by decide +kernel
theorem dX6_chance_13 : decode cX6_chance 13 = .ok (.iload_n 3, 1) := by decide +kernel
theorem dX6_chance_14 : decode cX6_chance 14 = .ok (.invokevirtual 65, 3) := by decide +kernel
theorem dX6_chance_17 : decode cX6_chance 17 = .ok (.ifCond .eq 14, 3) := by decide +kernel
theorem dX6_chance_20 : decode cX6_chance 20 = .ok (.iload 4, 2) := by decide +kernel
theorem dX6_chance_22 : decode cX6_chance 22 = .ok (.i2l, 1) := by decide +kernel
theorem dX6_chance_23 : decode cX6_chance 23 = .ok (.lconst 0, 1) := by decide +kernel
theorem dX6_chance_24 : decode cX6_chance 24 = .ok (.lconst 1, 1) := by decide +kernel
theorem dX6_chance_25 : decode cX6_chance 25 = .ok (.invokestatic 61, 3) := by decide +kernel
theorem dX6_chance_28 : decode cX6_chance 28 = .ok (.ifCond .ne 7, 3) := by decide +kernel
theorem dX6_chance_31 : decode cX6_chance 31 = .ok (.ldc2_w 135, 3) := by decide +kernel
theorem dX6_chance_34 : decode cX6_chance 34 = .ok (.lreturn, 1) := by decide +kernel
theorem dX6_chance_35 : decode cX6_chance 35 = .ok (.lconst 0, 1) := by decide +kernel
theorem dX6_chance_36 : decode cX6_chance 36 = .ok (.lstore 5, 2) := by decide +kernel
theorem dX6_chance_38 : decode cX6_chance 38 = .ok (.iconst 0, 1) := by decide +kernel
theorem dX6_chance_39 : decode cX6_chance 39 = .ok (.istore 7, 2) := by decide +kernel
theorem dX6_chance_41 : decode cX6_chance 41 = .ok (.iload 7, 2) := by decide +kernel
theorem dX6_chance_43 : decode cX6_chance 43 = .ok (.iload_n 2, 1) := by decide +kernel
theorem dX6_chance_44 : decode cX6_chance 44 = .ok (.if_icmp .ge 52, 3) := by decide +kernel
theorem dX6_chance_47 : decode cX6_chance 47 = .ok (.aload_n 0, 1) := by decide +kernel
theorem dX6_chance_48 : decode cX6_chance 48 = .ok (.iload_n 1, 1) := by decide +kernel
theorem dX6_chance_49 : decode cX6_chance 49 = .ok (.iload 7, 2) := by decide +kernel
theorem dX6_chance_51 : decode cX6_chance 51 = .ok (.iadd, 1) := by decide +kernel
theorem dX6_chance_52 : decode cX6_chance 52 = .ok (.iload_n 3, 1) := by decide +kernel
theorem dX6_chance_53 : decode cX6_chance 53 = .ok (.bipush 8, 2) := by decide +kernel
theorem dX6_chance_55 : decode cX6_chance 55 = .ok (.invokevirtual 438, 3) := by decide +kernel
theorem dX6_chance_58 : decode cX6_chance 58 = .ok (.istore 8, 2) := by decide +kernel
theorem dX6_chance_60 : decode cX6_chance 60 = .ok (.lload 5, 2) := by decide +kernel
theorem dX6_chance_62 : decode cX6_chance 62 = .ok (.iload 8, 2) := by decide +kernel
theorem dX6_chance_64 : decode cX6_chance 64 = .ok (.invokestatic 359, 3) := by decide +kernel
theorem dX6_chance_67 : decode cX6_chance 67 = .ok (.ifCond .eq 19, 3) := by decide +kernel
theorem dX6_chance_70 : decode cX6_chance 70 = .ok (.aload_n 0, 1) := by decide +kernel
theorem dX6_chance_71 : decode cX6_chance 71 = .ok (.getfield 106, 3) := by decide +kernel
theorem dX6_chance_74 : decode cX6_chance 74 = .ok (.iload 8, 2) := by decide +kernel
theorem dX6_chance_76 : decode cX6_chance 76 = .ok (.invokestatic 91, 3) := by decide +kernel
theorem dX6_chance_79 : decode cX6_chance 79 = .ok (.ifCond .ne 7, 3) := by decide +kernel
theorem dX6_chance_82 : decode cX6_chance 82 = .ok (.lconst 1, 1) := by decide +kernel
theorem dX6_chance_83 : decode cX6_chance 83 = .ok (.goto 4, 3) := by decide +kernel
theorem dX6_chance_86 : decode cX6_chance 86 = .ok (.lconst 0, 1) := by decide +kernel
theorem dX6_chance_87 : decode cX6_chance 87 = .ok (.ladd, 1) := by decide +kernel
theorem dX6_chance_88 : decode cX6_chance 88 = .ok (.lstore 5, 2) := by decide +kernel
theorem dX6_chance_90 : decode cX6_chance 90 = .ok (.iinc 7 1, 3) := by decide +kernel
theorem dX6_chance_93 : decode cX6_chance 93 = .ok (.goto (-52), 3) := by decide +kernel
theorem dX6_chance_96 : decode cX6_chance 96 = .ok (.lload 5, 2) := by decide +kernel
theorem dX6_chance_98 : decode cX6_chance 98 = .ok (.iload_n 2, 1) := by decide +kernel
theorem dX6_chance_99 : decode cX6_chance 99 = .ok (.i2l, 1) := by decide +kernel
theorem dX6_chance_100 : decode cX6_chance 100 = .ok (.iload 4, 2) := by decide +kernel
theorem dX6_chance_102 : decode cX6_chance 102 = .ok (.invokestatic 419, 3) := by decide +kernel
theorem dX6_chance_105 : decode cX6_chance 105 = .ok (.lreturn, 1) := by decide +kernel
theorem dX6_image_0 : decode cX6_image 0 = .ok (.iconst 0, 1) := by decide +kernel
theorem dX6_image_1 : decode cX6_image 1 = .ok (.istore_n 1, 1) := by decide +kernel
theorem dX6_image_2 : decode cX6_image 2 = .ok (.iload_n 1, 1) := by decide +kernel
theorem dX6_image_3 : decode cX6_image 3 = .ok (.bipush 20, 2) := by decide +kernel
theorem dX6_image_5 : decode cX6_image 5 = .ok (.if_icmp .ge 21, 3) := by decide +kernel
theorem dX6_image_8 : decode cX6_image 8 = .ok (.aload_n 0, 1) := by decide +kernel
theorem dX6_image_9 : decode cX6_image 9 = .ok (.getfield 32, 3) := by decide +kernel
theorem dX6_image_12 : decode cX6_image 12 = .ok (.iload_n 1, 1) := by decide +kernel
theorem dX6_image_13 : decode cX6_image 13 = .ok (.aload_n 0, 1) := by decide +kernel
theorem dX6_image_14 : decode cX6_image 14 = .ok (.getfield 23, 3) := by decide +kernel
theorem dX6_image_17 : decode cX6_image 17 = .ok (.iload_n 1, 1) := by decide +kernel
theorem dX6_image_18 : decode cX6_image 18 = .ok (.iaload, 1) := by decide +kernel
theorem dX6_image_19 : decode cX6_image 19 = .ok (.iastore, 1) := by decide +kernel
theorem dX6_image_20 : decode cX6_image 20 = .ok (.iinc 1 1, 3) := by decide +kernel
theorem dX6_image_23 : decode cX6_image 23 = .ok (.goto (-21), 3) := by decide +kernel
theorem dX6_image_26 : decode cX6_image 26 = .ok (.aload_n 0, 1) := by decide +kernel
theorem dX6_image_27 : decode cX6_image 27 = .ok (.aload_n 0, 1) := by decide +kernel
theorem dX6_image_28 : decode cX6_image 28 = .ok (.getfield 58, 3) := by decide +kernel
theorem dX6_image_31 : decode cX6_image 31 = .ok (.putfield 35, 3) := by decide +kernel
theorem dX6_image_34 : decode cX6_image 34 = .ok (.aload_n 0, 1) := by decide +kernel
theorem dX6_image_35 : decode cX6_image 35 = .ok (.aload_n 0, 1) := by decide +kernel
theorem dX6_image_36 : decode cX6_image 36 = .ok (.getfield 103, 3) := by decide +kernel
theorem dX6_image_39 : decode cX6_image 39 = .ok (.putfield 441, 3) := by decide +kernel
theorem dX6_image_42 : decode cX6_image 42 = .ok (.aload_n 0, 1) := by decide +kernel
theorem dX6_image_43 : decode cX6_image 43 = .ok (.aload_n 0, 1) := by decide +kernel
theorem dX6_image_44 : decode cX6_image 44 = .ok (.getfield 111, 3) := by decide +kernel
theorem dX6_image_47 : decode cX6_image 47 = .ok (.putfield 444, 3) := by decide +kernel
theorem dX6_image_50 : decode cX6_image 50 = .ok (.aload_n 0, 1) := by decide +kernel
theorem dX6_image_51 : decode cX6_image 51 = .ok (.aload_n 0, 1) := by decide +kernel
theorem dX6_image_52 : decode cX6_image 52 = .ok (.getfield 106, 3) := by decide +kernel
theorem dX6_image_55 : decode cX6_image 55 = .ok (.putfield 447, 3) := by decide +kernel
theorem dX6_image_58 : decode cX6_image 58 = .ok (.aload_n 0, 1) := by decide +kernel
theorem dX6_image_59 : decode cX6_image 59 = .ok (.aload_n 0, 1) := by decide +kernel
theorem dX6_image_60 : decode cX6_image 60 = .ok (.getfield 87, 3) := by decide +kernel
theorem dX6_image_63 : decode cX6_image 63 = .ok (.putfield 450, 3) := by decide +kernel
theorem dX6_image_66 : decode cX6_image 66 = .ok (.aload_n 0, 1) := by decide +kernel
theorem dX6_image_67 : decode cX6_image 67 = .ok (.getfield 58, 3) := by decide +kernel
theorem dX6_image_70 : decode cX6_image 70 = .ok (.ireturn, 1) := by decide +kernel
theorem dX6_back_0 : decode cX6_back 0 = .ok (.aload_n 0, 1) := by decide +kernel
theorem dX6_back_1 : decode cX6_back 1 = .ok (.getfield 35, 3) := by decide +kernel
theorem dX6_back_4 : decode cX6_back 4 = .ok (.iconst (-1), 1) := by decide +kernel
theorem dX6_back_5 : decode cX6_back 5 = .ok (.if_icmp .ne 6, 3) := by decide +kernel
theorem dX6_back_8 : decode cX6_back 8 = .ok (.bipush (-3), 2) := by decide +kernel
theorem dX6_back_10 : decode cX6_back 10 = .ok (.ireturn, 1) := by decide +kernel
theorem dX6_back_11 : decode cX6_back 11 = .ok (.iconst 0, 1) := by decide +kernel
theorem dX6_back_12 : decode cX6_back 12 = .ok (.istore_n 1, 1) := by decide +kernel
theorem dX6_back_13 : decode cX6_back 13 = .ok (.iload_n 1, 1) := by decide +kernel
theorem dX6_back_14 : decode cX6_back 14 = .ok (.bipush 20, 2) := by decide +kernel
theorem dX6_back_16 : decode cX6_back 16 = .ok (.if_icmp .ge 21, 3) := by decide +kernel
theorem dX6_back_19 : decode cX6_back 19 = .ok (.aload_n 0, 1) := by decide +kernel
theorem dX6_back_20 : decode cX6_back 20 = .ok (.getfield 23, 3) := by decide +kernel
theorem dX6_back_23 : decode cX6_back 23 = .ok (.iload_n 1, 1) := by decide +kernel
theorem dX6_back_24 : decode cX6_back 24 = .ok (.aload_n 0, 1) := by decide +kernel
theorem dX6_back_25 : decode cX6_back 25 = .ok (.getfield 32, 3) := by decide +kernel
theorem dX6_back_28 : decode cX6_back 28 = .ok (.iload_n 1, 1) := by decide +kernel
theorem dX6_back_29 : decode cX6_back 29 = .ok (.iaload, 1) := by decide +kernel
theorem dX6_back_30 : decode cX6_back 30 = .ok (.iastore, 1) := by decide +kernel
theorem dX6_back_31 : decode cX6_back 31 = .ok (.iinc 1 1, 3) := by decide +kernel
theorem dX6_back_34 : decode cX6_back 34 = .ok (.goto (-21), 3) := by decide +kernel
theorem dX6_back_37 : decode cX6_back 37 = .ok (.aload_n 0, 1) := by decide +kernel
theorem dX6_back_38 : decode cX6_back 38 = .ok (.aload_n 0, 1) := by decide +kernel
theorem dX6_back_39 : decode cX6_back 39 = .ok (.getfield 35, 3) := by decide +kernel
theorem dX6_back_42 : decode cX6_back 42 = .ok (.putfield 58, 3) := by decide +kernel
theorem dX6_back_45 : decode cX6_back 45 = .ok (.aload_n 0, 1) := by decide +kernel
theorem dX6_back_46 : decode cX6_back 46 = .ok (.aload_n 0, 1) := by decide +kernel
theorem dX6_back_47 : decode cX6_back 47 = .ok (.getfield 441, 3) := by decide +kernel
theorem dX6_back_50 : decode cX6_back 50 = .ok (.putfield 103, 3) := by decide +kernel
theorem dX6_back_53 : decode cX6_back 53 = .ok (.aload_n 0, 1) := by decide +kernel
theorem dX6_back_54 : decode cX6_back 54 = .ok (.aload_n 0, 1) := by decide +kernel
theorem dX6_back_55 : decode cX6_back 55 = .ok (.getfield 444, 3) := by decide +kernel
theorem dX6_back_58 : decode cX6_back 58 = .ok (.putfield 111, 3) := by decide +kernel
theorem dX6_back_61 : decode cX6_back 61 = .ok (.aload_n 0, 1) := by decide +kernel
theorem dX6_back_62 : decode cX6_back 62 = .ok (.aload_n 0, 1) := by decide +kernel
theorem dX6_back_63 : decode cX6_back 63 = .ok (.getfield 447, 3) := by decide +kernel
theorem dX6_back_66 : decode cX6_back 66 = .ok (.putfield 106, 3) := by decide +kernel
theorem dX6_back_69 : decode cX6_back 69 = .ok (.aload_n 0, 1) := by decide +kernel
theorem dX6_back_70 : decode cX6_back 70 = .ok (.aload_n 0, 1) := by decide +kernel
theorem dX6_back_71 : decode cX6_back 71 = .ok (.getfield 450, 3) := by decide +kernel
theorem dX6_back_74 : decode cX6_back 74 = .ok (.putfield 87, 3) := by decide +kernel
theorem dX6_back_77 : decode cX6_back 77 = .ok (.aload_n 0, 1) := by decide +kernel
theorem dX6_back_78 : decode cX6_back 78 = .ok (.getfield 58, 3) := by decide +kernel
theorem dX6_back_81 : decode cX6_back 81 = .ok (.ireturn, 1) := by decide +kernel
set_option maxRecDepth 20000 in
theorem dX6_count_0 : decode cX6_count 0 = .ok (.iload_n 1, 1) := by decide +kernel
theorem dX6_count_1 : decode cX6_count 1 = .ok (.i2l, 1) := by decide +kernel
theorem dX6_count_2 : decode cX6_count 2 = .ok (.lconst 0, 1) := by decide +kernel
theorem dX6_count_3 : decode cX6_count 3 = .ok (.ldc2_w 74, 3) := by decide +kernel
theorem dX6_count_6 : decode cX6_count 6 = .ok (.invokestatic 61, 3) := by decide +kernel
theorem dX6_count_9 : decode cX6_count 9 = .ok (.ifCond .ne 6, 3) := by decide +kernel
theorem dX6_count_12 : decode cX6_count 12 = .ok (.bipush (-2), 2) := by decide +kernel
theorem dX6_count_14 : decode cX6_count 14 = .ok (.ireturn, 1) := by decide +kernel
theorem dX6_count_15 : decode cX6_count 15 = .ok (.iload_n 1, 1) := by decide +kernel
theorem dX6_count_16 : decode cX6_count 16 = .ok (.ifCond .ne 10, 3) := by decide +kernel
theorem dX6_count_19 : decode cX6_count 19 = .ok (.aload_n 0, 1) := by decide +kernel
theorem dX6_count_20 : decode cX6_count 20 = .ok (.getfield 58, 3) := by decide +kernel
theorem dX6_count_23 : decode cX6_count 23 = .ok (.goto 58, 3) := by decide +kernel
theorem dX6_count_26 : decode cX6_count 26 = .ok (.iload_n 1, 1) := by decide +kernel
theorem dX6_count_27 : decode cX6_count 27 = .ok (.iconst 1, 1) := by decide +kernel
theorem dX6_count_28 : decode cX6_count 28 = .ok (.if_icmp .ne 13, 3) := by decide +kernel
theorem dX6_count_31 : decode cX6_count 31 = .ok (.aload_n 0, 1) := by decide +kernel
theorem dX6_count_32 : decode cX6_count 32 = .ok (.getfield 87, 3) := by decide +kernel
theorem dX6_count_35 : decode cX6_count 35 = .ok (.invokestatic 348, 3) := by decide +kernel
theorem dX6_count_38 : decode cX6_count 38 = .ok (.goto 43, 3) := by decide +kernel
theorem dX6_count_41 : decode cX6_count 41 = .ok (.iload_n 1, 1) := by decide +kernel
theorem dX6_count_42 : decode cX6_count 42 = .ok (.iconst 2, 1) := by decide +kernel
theorem dX6_count_43 : decode cX6_count 43 = .ok (.if_icmp .ne 10, 3) := by decide +kernel
theorem dX6_count_46 : decode cX6_count 46 = .ok (.aload_n 0, 1) := by decide +kernel
theorem dX6_count_47 : decode cX6_count 47 = .ok (.getfield 103, 3) := by decide +kernel
theorem dX6_count_50 : decode cX6_count 50 = .ok (.goto 31, 3) := by decide +kernel
theorem dX6_count_53 : decode cX6_count 53 = .ok (.iload_n 1, 1) := by decide +kernel
theorem dX6_count_54 : decode cX6_count 54 = .ok (.iconst 3, 1) := by decide +kernel
theorem dX6_count_55 : decode cX6_count 55 = .ok (.if_icmp .ne 10, 3) := by decide +kernel
theorem dX6_count_58 : decode cX6_count 58 = .ok (.aload_n 0, 1) := by decide +kernel
theorem dX6_count_59 : decode cX6_count 59 = .ok (.getfield 55, 3) := by decide +kernel
theorem dX6_count_62 : decode cX6_count 62 = .ok (.goto 19, 3) := by decide +kernel
theorem dX6_count_65 : decode cX6_count 65 = .ok (.iload_n 1, 1) := by decide +kernel
theorem dX6_count_66 : decode cX6_count 66 = .ok (.iconst 4, 1) := by decide +kernel
theorem dX6_count_67 : decode cX6_count 67 = .ok (.if_icmp .ne 10, 3) := by decide +kernel
theorem dX6_count_70 : decode cX6_count 70 = .ok (.aload_n 0, 1) := by decide +kernel
theorem dX6_count_71 : decode cX6_count 71 = .ok (.getfield 143, 3) := by decide +kernel
theorem dX6_count_74 : decode cX6_count 74 = .ok (.goto 7, 3) := by decide +kernel
theorem dX6_count_77 : decode cX6_count 77 = .ok (.aload_n 0, 1) := by decide +kernel
theorem dX6_count_78 : decode cX6_count 78 = .ok (.getfield 111, 3) := by decide +kernel
theorem dX6_count_81 : decode cX6_count 81 = .ok (.ireturn, 1) := by decide +kernel
set_option maxRecDepth 20000 in
theorem dX6_isSheet_0 : decode cX6_isSheet 0 = .ok (.iload_n 0, 1) := by decide +kernel
theorem dX6_isSheet_1 : decode cX6_isSheet 1 = .ok (.i2l, 1) := by decide +kernel
theorem dX6_isSheet_2 : decode cX6_isSheet 2 = .ok (.lconst 0, 1) := by decide +kernel
theorem dX6_isSheet_3 : decode cX6_isSheet 3 = .ok (.ldc2_w 391, 3) := by decide +kernel
theorem dX6_isSheet_6 : decode cX6_isSheet 6 = .ok (.invokestatic 61, 3) := by decide +kernel
theorem dX6_isSheet_9 : decode cX6_isSheet 9 = .ok (.ireturn, 1) := by decide +kernel
set_option maxRecDepth 20000 in
theorem dX6_sheet_0 : decode cX6_sheet 0 = .ok (.iload_n 1, 1) := by decide +kernel
theorem dX6_sheet_1 : decode cX6_sheet 1 = .ok (.invokestatic 426, 3) := by decide +kernel
theorem dX6_sheet_4 : decode cX6_sheet 4 = .ok (.ifCond .eq 27, 3) := by decide +kernel
theorem dX6_sheet_7 : decode cX6_sheet 7 = .ok (.iload_n 2, 1) := by decide +kernel
theorem dX6_sheet_8 : decode cX6_sheet 8 = .ok (.i2l, 1) := by decide +kernel
theorem dX6_sheet_9 : decode cX6_sheet 9 = .ok (.ldc2_w 109, 3) := by decide +kernel
theorem dX6_sheet_12 : decode cX6_sheet 12 = .ok (.ldc2_w 133, 3) := by decide +kernel
theorem dX6_sheet_15 : decode cX6_sheet 15 = .ok (.invokestatic 61, 3) := by decide +kernel
theorem dX6_sheet_18 : decode cX6_sheet 18 = .ok (.ifCond .eq 13, 3) := by decide +kernel
theorem dX6_sheet_21 : decode cX6_sheet 21 = .ok (.iload_n 2, 1) := by decide +kernel
theorem dX6_sheet_22 : decode cX6_sheet 22 = .ok (.ifCond .lt 12, 3) := by decide +kernel
theorem dX6_sheet_25 : decode cX6_sheet 25 = .ok (.iload_n 3, 1) := by decide +kernel
theorem dX6_sheet_26 : decode cX6_sheet 26 = .ok (.bipush 40, 2) := by decide +kernel
theorem dX6_sheet_28 : decode cX6_sheet 28 = .ok (.if_icmp .le 6, 3) := by decide +kernel
theorem dX6_sheet_31 : decode cX6_sheet 31 = .ok (.bipush (-2), 2) := by decide +kernel
theorem dX6_sheet_33 : decode cX6_sheet 33 = .ok (.ireturn, 1) := by decide +kernel
theorem dX6_sheet_34 : decode cX6_sheet 34 = .ok (.iload_n 2, 1) := by decide +kernel
theorem dX6_sheet_35 : decode cX6_sheet 35 = .ok (.ifCond .lt 10, 3) := by decide +kernel
theorem dX6_sheet_38 : decode cX6_sheet 38 = .ok (.iload_n 3, 1) := by decide +kernel
theorem dX6_sheet_39 : decode cX6_sheet 39 = .ok (.ifCond .ge 6, 3) := by decide +kernel
theorem dX6_sheet_42 : decode cX6_sheet 42 = .ok (.bipush (-14), 2) := by decide +kernel
theorem dX6_sheet_44 : decode cX6_sheet 44 = .ok (.ireturn, 1) := by decide +kernel
theorem dX6_sheet_45 : decode cX6_sheet 45 = .ok (.aload_n 0, 1) := by decide +kernel
theorem dX6_sheet_46 : decode cX6_sheet 46 = .ok (.getfield 38, 3) := by decide +kernel
theorem dX6_sheet_49 : decode cX6_sheet 49 = .ok (.iload_n 1, 1) := by decide +kernel
theorem dX6_sheet_50 : decode cX6_sheet 50 = .ok (.iload_n 2, 1) := by decide +kernel
theorem dX6_sheet_51 : decode cX6_sheet 51 = .ok (.ifCond .lt 7, 3) := by decide +kernel
theorem dX6_sheet_54 : decode cX6_sheet 54 = .ok (.iconst 1, 1) := by decide +kernel
theorem dX6_sheet_55 : decode cX6_sheet 55 = .ok (.goto 4, 3) := by decide +kernel
theorem dX6_sheet_58 : decode cX6_sheet 58 = .ok (.iconst 0, 1) := by decide +kernel
theorem dX6_sheet_59 : decode cX6_sheet 59 = .ok (.bastore, 1) := by decide +kernel
theorem dX6_sheet_60 : decode cX6_sheet 60 = .ok (.aload_n 0, 1) := by decide +kernel
theorem dX6_sheet_61 : decode cX6_sheet 61 = .ok (.getfield 42, 3) := by decide +kernel
end
section
theorem dX6_sheet_64 : decode cX6_sheet 64 = .ok (.iload_n 1, 1) := by decide +kernel
theorem dX6_sheet_65 : decode cX6_sheet 65 = .ok (.iload_n 2, 1) := by decide +kernel
theorem dX6_sheet_66 : decode cX6_sheet 66 = .ok (.iastore, 1) := by decide +kernel
theorem dX6_sheet_67 : decode cX6_sheet 67 = .ok (.aload_n 0, 1) := by decide +kernel
theorem dX6_sheet_68 : decode cX6_sheet 68 = .ok (.getfield 45, 3) := by decide +kernel
theorem dX6_sheet_71 : decode cX6_sheet 71 = .ok (.iload_n 1, 1) := by decide +kernel
theorem dX6_sheet_72 : decode cX6_sheet 72 = .ok (.iload_n 3, 1) := by decide +kernel
theorem dX6_sheet_73 : decode cX6_sheet 73 = .ok (.iastore, 1) := by decide +kernel
theorem dX6_sheet_74 : decode cX6_sheet 74 = .ok (.iconst 0, 1) := by decide +kernel
theorem dX6_sheet_75 : decode cX6_sheet 75 = .ok (.istore 4, 2) := by decide +kernel
theorem dX6_sheet_77 : decode cX6_sheet 77 = .ok (.iload 4, 2) := by decide +kernel
theorem dX6_sheet_79 : decode cX6_sheet 79 = .ok (.iload_n 3, 1) := by decide +kernel
theorem dX6_sheet_80 : decode cX6_sheet 80 = .ok (.if_icmp .ge 26, 3) := by decide +kernel
theorem dX6_sheet_83 : decode cX6_sheet 83 = .ok (.iload_n 2, 1) := by decide +kernel
theorem dX6_sheet_84 : decode cX6_sheet 84 = .ok (.ifCond .lt 22, 3) := by decide +kernel
theorem dX6_sheet_87 : decode cX6_sheet 87 = .ok (.aload_n 0, 1) := by decide +kernel
theorem dX6_sheet_88 : decode cX6_sheet 88 = .ok (.getfield 48, 3) := by decide +kernel
theorem dX6_sheet_91 : decode cX6_sheet 91 = .ok (.bipush 40, 2) := by decide +kernel
theorem dX6_sheet_93 : decode cX6_sheet 93 = .ok (.iload_n 1, 1) := by decide +kernel
theorem dX6_sheet_94 : decode cX6_sheet 94 = .ok (.imul, 1) := by decide +kernel
theorem dX6_sheet_95 : decode cX6_sheet 95 = .ok (.iload 4, 2) := by decide +kernel
theorem dX6_sheet_97 : decode cX6_sheet 97 = .ok (.iadd, 1) := by decide +kernel
theorem dX6_sheet_98 : decode cX6_sheet 98 = .ok (.iconst 0, 1) := by decide +kernel
theorem dX6_sheet_99 : decode cX6_sheet 99 = .ok (.iastore, 1) := by decide +kernel
theorem dX6_sheet_100 : decode cX6_sheet 100 = .ok (.iinc 4 1, 3) := by decide +kernel
theorem dX6_sheet_103 : decode cX6_sheet 103 = .ok (.goto (-26), 3) := by decide +kernel
theorem dX6_sheet_106 : decode cX6_sheet 106 = .ok (.iconst 1, 1) := by decide +kernel
theorem dX6_sheet_107 : decode cX6_sheet 107 = .ok (.ireturn, 1) := by decide +kernel
set_option maxRecDepth 20000 in
theorem dX6_cell_0 : decode cX6_cell 0 = .ok (.iload_n 1, 1) := by decide +kernel
theorem dX6_cell_1 : decode cX6_cell 1 = .ok (.invokestatic 426, 3) := by decide +kernel
theorem dX6_cell_4 : decode cX6_cell 4 = .ok (.ifCond .ne 6, 3) := by decide +kernel
theorem dX6_cell_7 : decode cX6_cell 7 = .ok (.bipush (-2), 2) := by decide +kernel
theorem dX6_cell_9 : decode cX6_cell 9 = .ok (.ireturn, 1) := by decide +kernel
theorem dX6_cell_10 : decode cX6_cell 10 = .ok (.aload_n 0, 1) := by decide +kernel
theorem dX6_cell_11 : decode cX6_cell 11 = .ok (.getfield 38, 3) := by decide +kernel
theorem dX6_cell_14 : decode cX6_cell 14 = .ok (.iload_n 1, 1) := by decide +kernel
theorem dX6_cell_15 : decode cX6_cell 15 = .ok (.baload, 1) := by decide +kernel
theorem dX6_cell_16 : decode cX6_cell 16 = .ok (.ifCond .ne 6, 3) := by decide +kernel
theorem dX6_cell_19 : decode cX6_cell 19 = .ok (.bipush (-11), 2) := by decide +kernel
theorem dX6_cell_21 : decode cX6_cell 21 = .ok (.ireturn, 1) := by decide +kernel
theorem dX6_cell_22 : decode cX6_cell 22 = .ok (.iload_n 2, 1) := by decide +kernel
theorem dX6_cell_23 : decode cX6_cell 23 = .ok (.i2l, 1) := by decide +kernel
theorem dX6_cell_24 : decode cX6_cell 24 = .ok (.lconst 0, 1) := by decide +kernel
theorem dX6_cell_25 : decode cX6_cell 25 = .ok (.aload_n 0, 1) := by decide +kernel
theorem dX6_cell_26 : decode cX6_cell 26 = .ok (.getfield 45, 3) := by decide +kernel
theorem dX6_cell_29 : decode cX6_cell 29 = .ok (.iload_n 1, 1) := by decide +kernel
theorem dX6_cell_30 : decode cX6_cell 30 = .ok (.iaload, 1) := by decide +kernel
theorem dX6_cell_31 : decode cX6_cell 31 = .ok (.iconst 1, 1) := by decide +kernel
theorem dX6_cell_32 : decode cX6_cell 32 = .ok (.isub, 1) := by decide +kernel
theorem dX6_cell_33 : decode cX6_cell 33 = .ok (.i2l, 1) := by decide +kernel
theorem dX6_cell_34 : decode cX6_cell 34 = .ok (.invokestatic 61, 3) := by decide +kernel
theorem dX6_cell_37 : decode cX6_cell 37 = .ok (.ifCond .ne 6, 3) := by decide +kernel
theorem dX6_cell_40 : decode cX6_cell 40 = .ok (.bipush (-12), 2) := by decide +kernel
theorem dX6_cell_42 : decode cX6_cell 42 = .ok (.ireturn, 1) := by decide +kernel
theorem dX6_cell_43 : decode cX6_cell 43 = .ok (.aload_n 0, 1) := by decide +kernel
theorem dX6_cell_44 : decode cX6_cell 44 = .ok (.getfield 48, 3) := by decide +kernel
theorem dX6_cell_47 : decode cX6_cell 47 = .ok (.bipush 40, 2) := by decide +kernel
theorem dX6_cell_49 : decode cX6_cell 49 = .ok (.iload_n 1, 1) := by decide +kernel
theorem dX6_cell_50 : decode cX6_cell 50 = .ok (.imul, 1) := by decide +kernel
theorem dX6_cell_51 : decode cX6_cell 51 = .ok (.iload_n 2, 1) := by decide +kernel
theorem dX6_cell_52 : decode cX6_cell 52 = .ok (.iadd, 1) := by decide +kernel
theorem dX6_cell_53 : decode cX6_cell 53 = .ok (.aload_n 0, 1) := by decide +kernel
theorem dX6_cell_54 : decode cX6_cell 54 = .ok (.getfield 42, 3) := by decide +kernel
theorem dX6_cell_57 : decode cX6_cell 57 = .ok (.iload_n 1, 1) := by decide +kernel
theorem dX6_cell_58 : decode cX6_cell 58 = .ok (.iaload, 1) := by decide +kernel
theorem dX6_cell_59 : decode cX6_cell 59 = .ok (.ifCond .ne 8, 3) := by decide +kernel
theorem dX6_cell_62 : decode cX6_cell 62 = .ok (.iload_n 3, 1) := by decide +kernel
theorem dX6_cell_63 : decode cX6_cell 63 = .ok (.i2b, 1) := by decide +kernel
theorem dX6_cell_64 : decode cX6_cell 64 = .ok (.goto 19, 3) := by decide +kernel
theorem dX6_cell_67 : decode cX6_cell 67 = .ok (.aload_n 0, 1) := by decide +kernel
theorem dX6_cell_68 : decode cX6_cell 68 = .ok (.getfield 42, 3) := by decide +kernel
theorem dX6_cell_71 : decode cX6_cell 71 = .ok (.iload_n 1, 1) := by decide +kernel
theorem dX6_cell_72 : decode cX6_cell 72 = .ok (.iaload, 1) := by decide +kernel
theorem dX6_cell_73 : decode cX6_cell 73 = .ok (.iconst 1, 1) := by decide +kernel
theorem dX6_cell_74 : decode cX6_cell 74 = .ok (.if_icmp .ne 8, 3) := by decide +kernel
theorem dX6_cell_77 : decode cX6_cell 77 = .ok (.iload_n 3, 1) := by decide +kernel
theorem dX6_cell_78 : decode cX6_cell 78 = .ok (.i2s, 1) := by decide +kernel
theorem dX6_cell_79 : decode cX6_cell 79 = .ok (.goto 4, 3) := by decide +kernel
theorem dX6_cell_82 : decode cX6_cell 82 = .ok (.iload_n 3, 1) := by decide +kernel
theorem dX6_cell_83 : decode cX6_cell 83 = .ok (.iastore, 1) := by decide +kernel
theorem dX6_cell_84 : decode cX6_cell 84 = .ok (.iconst 1, 1) := by decide +kernel
theorem dX6_cell_85 : decode cX6_cell 85 = .ok (.ireturn, 1) := by decide +kernel
set_option maxRecDepth 20000 in
theorem dX6_copy_0 : decode cX6_copy 0 = .ok (.iload_n 1, 1) := by decide +kernel
theorem dX6_copy_1 : decode cX6_copy 1 = .ok (.invokestatic 426, 3) := by decide +kernel
theorem dX6_copy_4 : decode cX6_copy 4 = .ok (.ifCond .eq 10, 3) := by decide +kernel
theorem dX6_copy_7 : decode cX6_copy 7 = .ok (.iload_n 3, 1) := by decide +kernel
theorem dX6_copy_8 : decode cX6_copy 8 = .ok (.invokestatic 426, 3) := by decide +kernel
theorem dX6_copy_11 : decode cX6_copy 11 = .ok (.ifCond .ne 6, 3) := by decide +kernel
theorem dX6_copy_14 : decode cX6_copy 14 = .ok (.bipush (-2), 2) := by decide +kernel
theorem dX6_copy_16 : decode cX6_copy 16 = .ok (.ireturn, 1) := by decide +kernel
theorem dX6_copy_17 : decode cX6_copy 17 = .ok (.aload_n 0, 1) := by decide +kernel
theorem dX6_copy_18 : decode cX6_copy 18 = .ok (.getfield 38, 3) := by decide +kernel
theorem dX6_copy_21 : decode cX6_copy 21 = .ok (.iload_n 1, 1) := by decide +kernel
theorem dX6_copy_22 : decode cX6_copy 22 = .ok (.baload, 1) := by decide +kernel
theorem dX6_copy_23 : decode cX6_copy 23 = .ok (.ifCond .eq 12, 3) := by decide +kernel
theorem dX6_copy_26 : decode cX6_copy 26 = .ok (.aload_n 0, 1) := by decide +kernel
theorem dX6_copy_27 : decode cX6_copy 27 = .ok (.getfield 38, 3) := by decide +kernel
theorem dX6_copy_30 : decode cX6_copy 30 = .ok (.iload_n 3, 1) := by decide +kernel
theorem dX6_copy_31 : decode cX6_copy 31 = .ok (.baload, 1) := by decide +kernel
theorem dX6_copy_32 : decode cX6_copy 32 = .ok (.ifCond .ne 6, 3) := by decide +kernel
theorem dX6_copy_35 : decode cX6_copy 35 = .ok (.bipush (-11), 2) := by decide +kernel
theorem dX6_copy_37 : decode cX6_copy 37 = .ok (.ireturn, 1) := by decide +kernel
theorem dX6_copy_38 : decode cX6_copy 38 = .ok (.aload_n 0, 1) := by decide +kernel
theorem dX6_copy_39 : decode cX6_copy 39 = .ok (.getfield 42, 3) := by decide +kernel
theorem dX6_copy_42 : decode cX6_copy 42 = .ok (.iload_n 1, 1) := by decide +kernel
theorem dX6_copy_43 : decode cX6_copy 43 = .ok (.iaload, 1) := by decide +kernel
theorem dX6_copy_44 : decode cX6_copy 44 = .ok (.aload_n 0, 1) := by decide +kernel
theorem dX6_copy_45 : decode cX6_copy 45 = .ok (.getfield 42, 3) := by decide +kernel
theorem dX6_copy_48 : decode cX6_copy 48 = .ok (.iload_n 3, 1) := by decide +kernel
theorem dX6_copy_49 : decode cX6_copy 49 = .ok (.iaload, 1) := by decide +kernel
theorem dX6_copy_50 : decode cX6_copy 50 = .ok (.if_icmp .eq 6, 3) := by decide +kernel
theorem dX6_copy_53 : decode cX6_copy 53 = .ok (.bipush (-13), 2) := by decide +kernel
theorem dX6_copy_55 : decode cX6_copy 55 = .ok (.ireturn, 1) := by decide +kernel
theorem dX6_copy_56 : decode cX6_copy 56 = .ok (.iload 5, 2) := by decide +kernel
theorem dX6_copy_58 : decode cX6_copy 58 = .ok (.ifCond .lt 39, 3) := by decide +kernel
theorem dX6_copy_61 : decode cX6_copy 61 = .ok (.iload_n 2, 1) := by decide +kernel
theorem dX6_copy_62 : decode cX6_copy 62 = .ok (.ifCond .lt 35, 3) := by decide +kernel
theorem dX6_copy_65 : decode cX6_copy 65 = .ok (.iload 4, 2) := by decide +kernel
theorem dX6_copy_67 : decode cX6_copy 67 = .ok (.ifCond .lt 30, 3) := by decide +kernel
theorem dX6_copy_70 : decode cX6_copy 70 = .ok (.iload_n 2, 1) := by decide +kernel
theorem dX6_copy_71 : decode cX6_copy 71 = .ok (.aload_n 0, 1) := by decide +kernel
theorem dX6_copy_72 : decode cX6_copy 72 = .ok (.getfield 45, 3) := by decide +kernel
theorem dX6_copy_75 : decode cX6_copy 75 = .ok (.iload_n 1, 1) := by decide +kernel
theorem dX6_copy_76 : decode cX6_copy 76 = .ok (.iaload, 1) := by decide +kernel
theorem dX6_copy_77 : decode cX6_copy 77 = .ok (.iload 5, 2) := by decide +kernel
theorem dX6_copy_79 : decode cX6_copy 79 = .ok (.isub, 1) := by decide +kernel
theorem dX6_copy_80 : decode cX6_copy 80 = .ok (.if_icmp .gt 17, 3) := by decide +kernel
theorem dX6_copy_83 : decode cX6_copy 83 = .ok (.iload 4, 2) := by decide +kernel
theorem dX6_copy_85 : decode cX6_copy 85 = .ok (.aload_n 0, 1) := by decide +kernel
theorem dX6_copy_86 : decode cX6_copy 86 = .ok (.getfield 45, 3) := by decide +kernel
theorem dX6_copy_89 : decode cX6_copy 89 = .ok (.iload_n 3, 1) := by decide +kernel
theorem dX6_copy_90 : decode cX6_copy 90 = .ok (.iaload, 1) := by decide +kernel
theorem dX6_copy_91 : decode cX6_copy 91 = .ok (.iload 5, 2) := by decide +kernel
theorem dX6_copy_93 : decode cX6_copy 93 = .ok (.isub, 1) := by decide +kernel
theorem dX6_copy_94 : decode cX6_copy 94 = .ok (.if_icmp .le 6, 3) := by decide +kernel
theorem dX6_copy_97 : decode cX6_copy 97 = .ok (.bipush (-12), 2) := by decide +kernel
theorem dX6_copy_99 : decode cX6_copy 99 = .ok (.ireturn, 1) := by decide +kernel
theorem dX6_copy_100 : decode cX6_copy 100 = .ok (.iload_n 1, 1) := by decide +kernel
theorem dX6_copy_101 : decode cX6_copy 101 = .ok (.iload_n 3, 1) := by decide +kernel
theorem dX6_copy_102 : decode cX6_copy 102 = .ok (.if_icmp .ne 13, 3) := by decide +kernel
theorem dX6_copy_105 : decode cX6_copy 105 = .ok (.iload_n 2, 1) := by decide +kernel
theorem dX6_copy_106 : decode cX6_copy 106 = .ok (.iload 4, 2) := by decide +kernel
theorem dX6_copy_108 : decode cX6_copy 108 = .ok (.if_icmp .ge 7, 3) := by decide +kernel
theorem dX6_copy_111 : decode cX6_copy 111 = .ok (.iconst 1, 1) := by decide +kernel
theorem dX6_copy_112 : decode cX6_copy 112 = .ok (.goto 4, 3) := by decide +kernel
theorem dX6_copy_115 : decode cX6_copy 115 = .ok (.iconst 0, 1) := by decide +kernel
theorem dX6_copy_116 : decode cX6_copy 116 = .ok (.istore 6, 2) := by decide +kernel
theorem dX6_copy_118 : decode cX6_copy 118 = .ok (.iconst 0, 1) := by decide +kernel
theorem dX6_copy_119 : decode cX6_copy 119 = .ok (.istore 7, 2) := by decide +kernel
theorem dX6_copy_121 : decode cX6_copy 121 = .ok (.iload 7, 2) := by decide +kernel
theorem dX6_copy_123 : decode cX6_copy 123 = .ok (.iload 5, 2) := by decide +kernel
theorem dX6_copy_125 : decode cX6_copy 125 = .ok (.if_icmp .ge 57, 3) := by decide +kernel
theorem dX6_copy_128 : decode cX6_copy 128 = .ok (.iload 6, 2) := by decide +kernel
theorem dX6_copy_130 : decode cX6_copy 130 = .ok (.ifCond .eq 13, 3) := by decide +kernel
theorem dX6_copy_133 : decode cX6_copy 133 = .ok (.iload 5, 2) := by decide +kernel
theorem dX6_copy_135 : decode cX6_copy 135 = .ok (.iconst 1, 1) := by decide +kernel
theorem dX6_copy_136 : decode cX6_copy 136 = .ok (.isub, 1) := by decide +kernel
theorem dX6_copy_137 : decode cX6_copy 137 = .ok (.iload 7, 2) := by decide +kernel
theorem dX6_copy_139 : decode cX6_copy 139 = .ok (.isub, 1) := by decide +kernel
theorem dX6_copy_140 : decode cX6_copy 140 = .ok (.goto 5, 3) := by decide +kernel
theorem dX6_copy_143 : decode cX6_copy 143 = .ok (.iload 7, 2) := by decide +kernel
theorem dX6_copy_145 : decode cX6_copy 145 = .ok (.istore 8, 2) := by decide +kernel
theorem dX6_copy_147 : decode cX6_copy 147 = .ok (.aload_n 0, 1) := by decide +kernel
theorem dX6_copy_148 : decode cX6_copy 148 = .ok (.getfield 48, 3) := by decide +kernel
theorem dX6_copy_151 : decode cX6_copy 151 = .ok (.bipush 40, 2) := by decide +kernel
theorem dX6_copy_153 : decode cX6_copy 153 = .ok (.iload_n 3, 1) := by decide +kernel
theorem dX6_copy_154 : decode cX6_copy 154 = .ok (.imul, 1) := by decide +kernel
theorem dX6_copy_155 : decode cX6_copy 155 = .ok (.iload 4, 2) := by decide +kernel
theorem dX6_copy_157 : decode cX6_copy 157 = .ok (.iadd, 1) := by decide +kernel
theorem dX6_copy_158 : decode cX6_copy 158 = .ok (.iload 8, 2) := by decide +kernel
theorem dX6_copy_160 : decode cX6_copy 160 = .ok (.iadd, 1) := by decide +kernel
theorem dX6_copy_161 : decode cX6_copy 161 = .ok (.aload_n 0, 1) := by decide +kernel
theorem dX6_copy_162 : decode cX6_copy 162 = .ok (.getfield 48, 3) := by decide +kernel
theorem dX6_copy_165 : decode cX6_copy 165 = .ok (.bipush 40, 2) := by decide +kernel
theorem dX6_copy_167 : decode cX6_copy 167 = .ok (.iload_n 1, 1) := by decide +kernel
theorem dX6_copy_168 : decode cX6_copy 168 = .ok (.imul, 1) := by decide +kernel
theorem dX6_copy_169 : decode cX6_copy 169 = .ok (.iload_n 2, 1) := by decide +kernel
theorem dX6_copy_170 : decode cX6_copy 170 = .ok (.iadd, 1) := by decide +kernel
theorem dX6_copy_171 : decode cX6_copy 171 = .ok (.iload 8, 2) := by decide +kernel
theorem dX6_copy_173 : decode cX6_copy 173 = .ok (.iadd, 1) := by decide +kernel
theorem dX6_copy_174 : decode cX6_copy 174 = .ok (.iaload, 1) := by decide +kernel
theorem dX6_copy_175 : decode cX6_copy 175 = .ok (.iastore, 1) := by decide +kernel
theorem dX6_copy_176 : decode cX6_copy 176 = .ok (.iinc 7 1, 3) := by decide +kernel
theorem dX6_copy_179 : decode cX6_copy 179 = .ok (.goto (-58), 3) := by decide +kernel
theorem dX6_copy_182 : decode cX6_copy 182 = .ok (.iload 5, 2) := by decide +kernel
theorem dX6_copy_184 : decode cX6_copy 184 = .ok (.ireturn, 1) := by decide +kernel
set_option maxRecDepth 20000 in
theorem dX6_suits_0 : decode cX6_suits 0 = .ok (.iload_n 1, 1) := by decide +kernel
theorem dX6_suits_1 : decode cX6_suits 1 = .ok (.invokestatic 426, 3) := by decide +kernel
theorem dX6_suits_4 : decode cX6_suits 4 = .ok (.ifCond .eq 28, 3) := by decide +kernel
theorem dX6_suits_7 : decode cX6_suits 7 = .ok (.iload_n 2, 1) := by decide +kernel
theorem dX6_suits_8 : decode cX6_suits 8 = .ok (.i2l, 1) := by decide +kernel
theorem dX6_suits_9 : decode cX6_suits 9 = .ok (.lconst 0, 1) := by decide +kernel
theorem dX6_suits_10 : decode cX6_suits 10 = .ok (.ldc2_w 133, 3) := by decide +kernel
theorem dX6_suits_13 : decode cX6_suits 13 = .ok (.invokestatic 61, 3) := by decide +kernel
theorem dX6_suits_16 : decode cX6_suits 16 = .ok (.ifCond .eq 16, 3) := by decide +kernel
theorem dX6_suits_19 : decode cX6_suits 19 = .ok (.iload 4, 2) := by decide +kernel
theorem dX6_suits_21 : decode cX6_suits 21 = .ok (.i2l, 1) := by decide +kernel
theorem dX6_suits_22 : decode cX6_suits 22 = .ok (.lconst 0, 1) := by decide +kernel
theorem dX6_suits_23 : decode cX6_suits 23 = .ok (.ldc2_w 74, 3) := by decide +kernel
theorem dX6_suits_26 : decode cX6_suits 26 = .ok (.invokestatic 61, 3) := by decide +kernel
theorem dX6_suits_29 : decode cX6_suits 29 = .ok (.ifCond .ne 6, 3) := by decide +kernel
theorem dX6_suits_32 : decode cX6_suits 32 = .ok (.bipush (-2), 2) := by decide +kernel
theorem dX6_suits_34 : decode cX6_suits 34 = .ok (.ireturn, 1) := by decide +kernel
theorem dX6_suits_35 : decode cX6_suits 35 = .ok (.aload_n 0, 1) := by decide +kernel
theorem dX6_suits_36 : decode cX6_suits 36 = .ok (.getfield 38, 3) := by decide +kernel
theorem dX6_suits_39 : decode cX6_suits 39 = .ok (.iload_n 1, 1) := by decide +kernel
theorem dX6_suits_40 : decode cX6_suits 40 = .ok (.baload, 1) := by decide +kernel
theorem dX6_suits_41 : decode cX6_suits 41 = .ok (.ifCond .eq 16, 3) := by decide +kernel
theorem dX6_suits_44 : decode cX6_suits 44 = .ok (.aload_n 0, 1) := by decide +kernel
theorem dX6_suits_45 : decode cX6_suits 45 = .ok (.getfield 42, 3) := by decide +kernel
theorem dX6_suits_48 : decode cX6_suits 48 = .ok (.iload_n 1, 1) := by decide +kernel
theorem dX6_suits_49 : decode cX6_suits 49 = .ok (.iaload, 1) := by decide +kernel
theorem dX6_suits_50 : decode cX6_suits 50 = .ok (.iload_n 2, 1) := by decide +kernel
theorem dX6_suits_51 : decode cX6_suits 51 = .ok (.if_icmp .eq 6, 3) := by decide +kernel
theorem dX6_suits_54 : decode cX6_suits 54 = .ok (.bipush (-13), 2) := by decide +kernel
theorem dX6_suits_56 : decode cX6_suits 56 = .ok (.ireturn, 1) := by decide +kernel
theorem dX6_suits_57 : decode cX6_suits 57 = .ok (.aload_n 0, 1) := by decide +kernel
theorem dX6_suits_58 : decode cX6_suits 58 = .ok (.getfield 38, 3) := by decide +kernel
theorem dX6_suits_61 : decode cX6_suits 61 = .ok (.iload_n 1, 1) := by decide +kernel
theorem dX6_suits_62 : decode cX6_suits 62 = .ok (.baload, 1) := by decide +kernel
theorem dX6_suits_63 : decode cX6_suits 63 = .ok (.ifCond .ne 6, 3) := by decide +kernel
theorem dX6_suits_66 : decode cX6_suits 66 = .ok (.bipush (-11), 2) := by decide +kernel
theorem dX6_suits_68 : decode cX6_suits 68 = .ok (.ireturn, 1) := by decide +kernel
theorem dX6_suits_69 : decode cX6_suits 69 = .ok (.iconst 0, 1) := by decide +kernel
theorem dX6_suits_70 : decode cX6_suits 70 = .ok (.istore 5, 2) := by decide +kernel
theorem dX6_suits_72 : decode cX6_suits 72 = .ok (.iconst 0, 1) := by decide +kernel
theorem dX6_suits_73 : decode cX6_suits 73 = .ok (.istore 6, 2) := by decide +kernel
theorem dX6_suits_75 : decode cX6_suits 75 = .ok (.iload 6, 2) := by decide +kernel
theorem dX6_suits_77 : decode cX6_suits 77 = .ok (.iload 4, 2) := by decide +kernel
theorem dX6_suits_79 : decode cX6_suits 79 = .ok (.if_icmp .ge 88, 3) := by decide +kernel
theorem dX6_suits_82 : decode cX6_suits 82 = .ok (.iload_n 3, 1) := by decide +kernel
theorem dX6_suits_83 : decode cX6_suits 83 = .ok (.ifCond .lt 20, 3) := by decide +kernel
theorem dX6_suits_86 : decode cX6_suits 86 = .ok (.iload_n 3, 1) := by decide +kernel
theorem dX6_suits_87 : decode cX6_suits 87 = .ok (.aload_n 0, 1) := by decide +kernel
theorem dX6_suits_88 : decode cX6_suits 88 = .ok (.getfield 45, 3) := by decide +kernel
theorem dX6_suits_91 : decode cX6_suits 91 = .ok (.iload_n 1, 1) := by decide +kernel
theorem dX6_suits_92 : decode cX6_suits 92 = .ok (.iaload, 1) := by decide +kernel
theorem dX6_suits_93 : decode cX6_suits 93 = .ok (.iconst 3, 1) := by decide +kernel
theorem dX6_suits_94 : decode cX6_suits 94 = .ok (.iload 6, 2) := by decide +kernel
theorem dX6_suits_96 : decode cX6_suits 96 = .ok (.imul, 1) := by decide +kernel
theorem dX6_suits_97 : decode cX6_suits 97 = .ok (.isub, 1) := by decide +kernel
theorem dX6_suits_98 : decode cX6_suits 98 = .ok (.iconst 3, 1) := by decide +kernel
theorem dX6_suits_99 : decode cX6_suits 99 = .ok (.isub, 1) := by decide +kernel
theorem dX6_suits_100 : decode cX6_suits 100 = .ok (.if_icmp .le 6, 3) := by decide +kernel
theorem dX6_suits_103 : decode cX6_suits 103 = .ok (.bipush (-12), 2) := by decide +kernel
theorem dX6_suits_105 : decode cX6_suits 105 = .ok (.ireturn, 1) := by decide +kernel
theorem dX6_suits_106 : decode cX6_suits 106 = .ok (.bipush 40, 2) := by decide +kernel
theorem dX6_suits_108 : decode cX6_suits 108 = .ok (.iload_n 1, 1) := by decide +kernel
theorem dX6_suits_109 : decode cX6_suits 109 = .ok (.imul, 1) := by decide +kernel
theorem dX6_suits_110 : decode cX6_suits 110 = .ok (.iload_n 3, 1) := by decide +kernel
theorem dX6_suits_111 : decode cX6_suits 111 = .ok (.iadd, 1) := by decide +kernel
theorem dX6_suits_112 : decode cX6_suits 112 = .ok (.iconst 3, 1) := by decide +kernel
theorem dX6_suits_113 : decode cX6_suits 113 = .ok (.iload 6, 2) := by decide +kernel
theorem dX6_suits_115 : decode cX6_suits 115 = .ok (.imul, 1) := by decide +kernel
theorem dX6_suits_116 : decode cX6_suits 116 = .ok (.iadd, 1) := by decide +kernel
theorem dX6_suits_117 : decode cX6_suits 117 = .ok (.istore 7, 2) := by decide +kernel
theorem dX6_suits_119 : decode cX6_suits 119 = .ok (.iload 5, 2) := by decide +kernel
theorem dX6_suits_121 : decode cX6_suits 121 = .ok (.aload_n 0, 1) := by decide +kernel
theorem dX6_suits_122 : decode cX6_suits 122 = .ok (.aload_n 0, 1) := by decide +kernel
theorem dX6_suits_123 : decode cX6_suits 123 = .ok (.getfield 48, 3) := by decide +kernel
theorem dX6_suits_126 : decode cX6_suits 126 = .ok (.iload 7, 2) := by decide +kernel
theorem dX6_suits_128 : decode cX6_suits 128 = .ok (.iaload, 1) := by decide +kernel
theorem dX6_suits_129 : decode cX6_suits 129 = .ok (.aload_n 0, 1) := by decide +kernel
theorem dX6_suits_130 : decode cX6_suits 130 = .ok (.getfield 48, 3) := by decide +kernel
theorem dX6_suits_133 : decode cX6_suits 133 = .ok (.iload 7, 2) := by decide +kernel
theorem dX6_suits_135 : decode cX6_suits 135 = .ok (.iconst 1, 1) := by decide +kernel
theorem dX6_suits_136 : decode cX6_suits 136 = .ok (.iadd, 1) := by decide +kernel
theorem dX6_suits_137 : decode cX6_suits 137 = .ok (.iaload, 1) := by decide +kernel
theorem dX6_suits_138 : decode cX6_suits 138 = .ok (.aload_n 0, 1) := by decide +kernel
theorem dX6_suits_139 : decode cX6_suits 139 = .ok (.getfield 48, 3) := by decide +kernel
theorem dX6_suits_142 : decode cX6_suits 142 = .ok (.iload 7, 2) := by decide +kernel
theorem dX6_suits_144 : decode cX6_suits 144 = .ok (.iconst 2, 1) := by decide +kernel
theorem dX6_suits_145 : decode cX6_suits 145 = .ok (.iadd, 1) := by decide +kernel
theorem dX6_suits_146 : decode cX6_suits 146 = .ok (.iaload, 1) := by decide +kernel
theorem dX6_suits_147 : decode cX6_suits 147 = .ok (.invokevirtual 453, 3) := by decide +kernel
theorem dX6_suits_150 : decode cX6_suits 150 = .ok (.ifCond .lt 7, 3) := by decide +kernel
theorem dX6_suits_153 : decode cX6_suits 153 = .ok (.iconst 1, 1) := by decide +kernel
theorem dX6_suits_154 : decode cX6_suits 154 = .ok (.goto 4, 3) := by decide +kernel
theorem dX6_suits_157 : decode cX6_suits 157 = .ok (.iconst 0, 1) := by decide +kernel
theorem dX6_suits_158 : decode cX6_suits 158 = .ok (.iadd, 1) := by decide +kernel
theorem dX6_suits_159 : decode cX6_suits 159 = .ok (.istore 5, 2) := by decide +kernel
theorem dX6_suits_161 : decode cX6_suits 161 = .ok (.iinc 6 1, 3) := by decide +kernel
theorem dX6_suits_164 : decode cX6_suits 164 = .ok (.goto (-89), 3) := by decide +kernel
theorem dX6_suits_167 : decode cX6_suits 167 = .ok (.iload 5, 2) := by decide +kernel
theorem dX6_suits_169 : decode cX6_suits 169 = .ok (.ireturn, 1) := by decide +kernel
theorem dX6_over_0 : decode cX6_over 0 = .ok (.iload_n 0, 1) := by decide +kernel
theorem dX6_over_1 : decode cX6_over 1 = .ok (.ifCond .ne 7, 3) := by decide +kernel
theorem dX6_over_4 : decode cX6_over 4 = .ok (.iconst (-1), 1) := by decide +kernel
theorem dX6_over_5 : decode cX6_over 5 = .ok (.goto 22, 3) := by decide +kernel
theorem dX6_over_8 : decode cX6_over 8 = .ok (.iload_n 0, 1) := by decide +kernel
theorem dX6_over_9 : decode cX6_over 9 = .ok (.iconst 3, 1) := by decide +kernel
theorem dX6_over_10 : decode cX6_over 10 = .ok (.if_icmp .ne 7, 3) := by decide +kernel
theorem dX6_over_13 : decode cX6_over 13 = .ok (.iconst 1, 1) := by decide +kernel
theorem dX6_over_14 : decode cX6_over 14 = .ok (.goto 13, 3) := by decide +kernel
theorem dX6_over_17 : decode cX6_over 17 = .ok (.iload_n 0, 1) := by decide +kernel
theorem dX6_over_18 : decode cX6_over 18 = .ok (.iconst 4, 1) := by decide +kernel
theorem dX6_over_19 : decode cX6_over 19 = .ok (.if_icmp .ne 7, 3) := by decide +kernel
theorem dX6_over_22 : decode cX6_over 22 = .ok (.iconst 2, 1) := by decide +kernel
theorem dX6_over_23 : decode cX6_over 23 = .ok (.goto 4, 3) := by decide +kernel
theorem dX6_over_26 : decode cX6_over 26 = .ok (.iconst 0, 1) := by decide +kernel
theorem dX6_over_27 : decode cX6_over 27 = .ok (.ireturn, 1) := by decide +kernel
set_option maxRecDepth 20000 in
theorem dX6_taken_0 : decode cX6_taken 0 = .ok (.iload_n 2, 1) := by decide +kernel
theorem dX6_taken_1 : decode cX6_taken 1 = .ok (.i2l, 1) := by decide +kernel
theorem dX6_taken_2 : decode cX6_taken 2 = .ok (.lconst 0, 1) := by decide +kernel
theorem dX6_taken_3 : decode cX6_taken 3 = .ok (.ldc2_w 74, 3) := by decide +kernel
theorem dX6_taken_6 : decode cX6_taken 6 = .ok (.invokestatic 61, 3) := by decide +kernel
theorem dX6_taken_9 : decode cX6_taken 9 = .ok (.ifCond .ne 6, 3) := by decide +kernel
theorem dX6_taken_12 : decode cX6_taken 12 = .ok (.bipush (-2), 2) := by decide +kernel
theorem dX6_taken_14 : decode cX6_taken 14 = .ok (.ireturn, 1) := by decide +kernel
theorem dX6_taken_15 : decode cX6_taken 15 = .ok (.aload_n 0, 1) := by decide +kernel
theorem dX6_taken_16 : decode cX6_taken 16 = .ok (.iload_n 1, 1) := by decide +kernel
theorem dX6_taken_17 : decode cX6_taken 17 = .ok (.invokevirtual 65, 3) := by decide +kernel
theorem dX6_taken_20 : decode cX6_taken 20 = .ok (.ifCond .ne 6, 3) := by decide +kernel
theorem dX6_taken_23 : decode cX6_taken 23 = .ok (.bipush (-11), 2) := by decide +kernel
theorem dX6_taken_25 : decode cX6_taken 25 = .ok (.ireturn, 1) := by decide +kernel
theorem dX6_taken_26 : decode cX6_taken 26 = .ok (.aload_n 0, 1) := by decide +kernel
theorem dX6_taken_27 : decode cX6_taken 27 = .ok (.getfield 23, 3) := by decide +kernel
theorem dX6_taken_30 : decode cX6_taken 30 = .ok (.iconst 4, 1) := by decide +kernel
theorem dX6_taken_31 : decode cX6_taken 31 = .ok (.iload_n 1, 1) := by decide +kernel
theorem dX6_taken_32 : decode cX6_taken 32 = .ok (.imul, 1) := by decide +kernel
theorem dX6_taken_33 : decode cX6_taken 33 = .ok (.iconst 3, 1) := by decide +kernel
theorem dX6_taken_34 : decode cX6_taken 34 = .ok (.iadd, 1) := by decide +kernel
theorem dX6_taken_35 : decode cX6_taken 35 = .ok (.iaload, 1) := by decide +kernel
theorem dX6_taken_36 : decode cX6_taken 36 = .ok (.istore_n 3, 1) := by decide +kernel
theorem dX6_taken_37 : decode cX6_taken 37 = .ok (.iload_n 3, 1) := by decide +kernel
theorem dX6_taken_38 : decode cX6_taken 38 = .ok (.iconst (-1), 1) := by decide +kernel
theorem dX6_taken_39 : decode cX6_taken 39 = .ok (.if_icmp .eq 16, 3) := by decide +kernel
theorem dX6_taken_42 : decode cX6_taken 42 = .ok (.iload_n 3, 1) := by decide +kernel
theorem dX6_taken_43 : decode cX6_taken 43 = .ok (.iload_n 2, 1) := by decide +kernel
theorem dX6_taken_44 : decode cX6_taken 44 = .ok (.if_icmp .eq 11, 3) := by decide +kernel
theorem dX6_taken_47 : decode cX6_taken 47 = .ok (.iload_n 3, 1) := by decide +kernel
theorem dX6_taken_48 : decode cX6_taken 48 = .ok (.invokestatic 456, 3) := by decide +kernel
theorem dX6_taken_51 : decode cX6_taken 51 = .ok (.istore_n 3, 1) := by decide +kernel
theorem dX6_taken_52 : decode cX6_taken 52 = .ok (.goto (-15), 3) := by decide +kernel
theorem dX6_taken_55 : decode cX6_taken 55 = .ok (.iload_n 3, 1) := by decide +kernel
theorem dX6_taken_56 : decode cX6_taken 56 = .ok (.iload_n 2, 1) := by decide +kernel
theorem dX6_taken_57 : decode cX6_taken 57 = .ok (.if_icmp .ne 14, 3) := by decide +kernel
theorem dX6_taken_60 : decode cX6_taken 60 = .ok (.aload_n 0, 1) := by decide +kernel
theorem dX6_taken_61 : decode cX6_taken 61 = .ok (.getfield 23, 3) := by decide +kernel
theorem dX6_taken_64 : decode cX6_taken 64 = .ok (.iconst 4, 1) := by decide +kernel
theorem dX6_taken_65 : decode cX6_taken 65 = .ok (.iload_n 1, 1) := by decide +kernel
theorem dX6_taken_66 : decode cX6_taken 66 = .ok (.imul, 1) := by decide +kernel
theorem dX6_taken_67 : decode cX6_taken 67 = .ok (.iaload, 1) := by decide +kernel
theorem dX6_taken_68 : decode cX6_taken 68 = .ok (.goto 5, 3) := by decide +kernel
theorem dX6_taken_71 : decode cX6_taken 71 = .ok (.bipush (-13), 2) := by decide +kernel
theorem dX6_taken_73 : decode cX6_taken 73 = .ok (.ireturn, 1) := by decide +kernel
theorem dJ13_bitCount_95d88_0 : decode cJ13_bitCount_95d88 0 = .ok (.lload_n 0, 1) := by decide +kernel
theorem dJ13_bitCount_95d88_1 : decode cJ13_bitCount_95d88 1 = .ok (.lload_n 0, 1) := by decide +kernel
theorem dJ13_bitCount_95d88_2 : decode cJ13_bitCount_95d88 2 = .ok (.iconst 1, 1) := by decide +kernel
theorem dJ13_bitCount_95d88_3 : decode cJ13_bitCount_95d88 3 = .ok (.lushr, 1) := by decide +kernel
theorem dJ13_bitCount_95d88_4 : decode cJ13_bitCount_95d88 4 = .ok (.ldc2_w 314, 3) := by decide +kernel
theorem dJ13_bitCount_95d88_7 : decode cJ13_bitCount_95d88 7 = .ok (.land, 1) := by decide +kernel
theorem dJ13_bitCount_95d88_8 : decode cJ13_bitCount_95d88 8 = .ok (.lsub, 1) := by decide +kernel
theorem dJ13_bitCount_95d88_9 : decode cJ13_bitCount_95d88 9 = .ok (.lstore_n 0, 1) := by decide +kernel
theorem dJ13_bitCount_95d88_10 : decode cJ13_bitCount_95d88 10 = .ok (.lload_n 0, 1) := by decide +kernel
theorem dJ13_bitCount_95d88_11 : decode cJ13_bitCount_95d88 11 = .ok (.ldc2_w 316, 3) := by decide +kernel
theorem dJ13_bitCount_95d88_14 : decode cJ13_bitCount_95d88 14 = .ok (.land, 1) := by decide +kernel
theorem dJ13_bitCount_95d88_15 : decode cJ13_bitCount_95d88 15 = .ok (.lload_n 0, 1) := by decide +kernel
theorem dJ13_bitCount_95d88_16 : decode cJ13_bitCount_95d88 16 = .ok (.iconst 2, 1) := by decide +kernel
theorem dJ13_bitCount_95d88_17 : decode cJ13_bitCount_95d88 17 = .ok (.lushr, 1) := by decide +kernel
theorem dJ13_bitCount_95d88_18 : decode cJ13_bitCount_95d88 18 = .ok (.ldc2_w 316, 3) := by decide +kernel
theorem dJ13_bitCount_95d88_21 : decode cJ13_bitCount_95d88 21 = .ok (.land, 1) := by decide +kernel
theorem dJ13_bitCount_95d88_22 : decode cJ13_bitCount_95d88 22 = .ok (.ladd, 1) := by decide +kernel
theorem dJ13_bitCount_95d88_23 : decode cJ13_bitCount_95d88 23 = .ok (.lstore_n 0, 1) := by decide +kernel
theorem dJ13_bitCount_95d88_24 : decode cJ13_bitCount_95d88 24 = .ok (.lload_n 0, 1) := by decide +kernel
theorem dJ13_bitCount_95d88_25 : decode cJ13_bitCount_95d88 25 = .ok (.lload_n 0, 1) := by decide +kernel
theorem dJ13_bitCount_95d88_26 : decode cJ13_bitCount_95d88 26 = .ok (.iconst 4, 1) := by decide +kernel
theorem dJ13_bitCount_95d88_27 : decode cJ13_bitCount_95d88 27 = .ok (.lushr, 1) := by decide +kernel
theorem dJ13_bitCount_95d88_28 : decode cJ13_bitCount_95d88 28 = .ok (.ladd, 1) := by decide +kernel
theorem dJ13_bitCount_95d88_29 : decode cJ13_bitCount_95d88 29 = .ok (.ldc2_w 318, 3) := by decide +kernel
theorem dJ13_bitCount_95d88_32 : decode cJ13_bitCount_95d88 32 = .ok (.land, 1) := by decide +kernel
theorem dJ13_bitCount_95d88_33 : decode cJ13_bitCount_95d88 33 = .ok (.lstore_n 0, 1) := by decide +kernel
theorem dJ13_bitCount_95d88_34 : decode cJ13_bitCount_95d88 34 = .ok (.lload_n 0, 1) := by decide +kernel
theorem dJ13_bitCount_95d88_35 : decode cJ13_bitCount_95d88 35 = .ok (.lload_n 0, 1) := by decide +kernel
theorem dJ13_bitCount_95d88_36 : decode cJ13_bitCount_95d88 36 = .ok (.bipush 8, 2) := by decide +kernel
theorem dJ13_bitCount_95d88_38 : decode cJ13_bitCount_95d88 38 = .ok (.lushr, 1) := by decide +kernel
theorem dJ13_bitCount_95d88_39 : decode cJ13_bitCount_95d88 39 = .ok (.ladd, 1) := by decide +kernel
theorem dJ13_bitCount_95d88_40 : decode cJ13_bitCount_95d88 40 = .ok (.lstore_n 0, 1) := by decide +kernel
theorem dJ13_bitCount_95d88_41 : decode cJ13_bitCount_95d88 41 = .ok (.lload_n 0, 1) := by decide +kernel
theorem dJ13_bitCount_95d88_42 : decode cJ13_bitCount_95d88 42 = .ok (.lload_n 0, 1) := by decide +kernel
theorem dJ13_bitCount_95d88_43 : decode cJ13_bitCount_95d88 43 = .ok (.bipush 16, 2) := by decide +kernel
theorem dJ13_bitCount_95d88_45 : decode cJ13_bitCount_95d88 45 = .ok (.lushr, 1) := by decide +kernel
theorem dJ13_bitCount_95d88_46 : decode cJ13_bitCount_95d88 46 = .ok (.ladd, 1) := by decide +kernel
theorem dJ13_bitCount_95d88_47 : decode cJ13_bitCount_95d88 47 = .ok (.lstore_n 0, 1) := by decide +kernel
theorem dJ13_bitCount_95d88_48 : decode cJ13_bitCount_95d88 48 = .ok (.lload_n 0, 1) := by decide +kernel
theorem dJ13_bitCount_95d88_49 : decode cJ13_bitCount_95d88 49 = .ok (.lload_n 0, 1) := by decide +kernel
theorem dJ13_bitCount_95d88_50 : decode cJ13_bitCount_95d88 50 = .ok (.bipush 32, 2) := by decide +kernel
theorem dJ13_bitCount_95d88_52 : decode cJ13_bitCount_95d88 52 = .ok (.lushr, 1) := by decide +kernel
theorem dJ13_bitCount_95d88_53 : decode cJ13_bitCount_95d88 53 = .ok (.ladd, 1) := by decide +kernel
theorem dJ13_bitCount_95d88_54 : decode cJ13_bitCount_95d88 54 = .ok (.lstore_n 0, 1) := by decide +kernel
theorem dJ13_bitCount_95d88_55 : decode cJ13_bitCount_95d88 55 = .ok (.lload_n 0, 1) := by decide +kernel
theorem dJ13_bitCount_95d88_56 : decode cJ13_bitCount_95d88 56 = .ok (.l2i, 1) := by decide +kernel
theorem dJ13_bitCount_95d88_57 : decode cJ13_bitCount_95d88 57 = .ok (.bipush 127, 2) := by decide +kernel
theorem dJ13_bitCount_95d88_59 : decode cJ13_bitCount_95d88 59 = .ok (.iand, 1) := by decide +kernel
theorem dJ13_bitCount_95d88_60 : decode cJ13_bitCount_95d88 60 = .ok (.ireturn, 1) := by decide +kernel
theorem dJ9_floorMod_7cf53_0 : decode cJ9_floorMod_7cf53 0 = .ok (.iload_n 0, 1) := by decide +kernel
theorem dJ9_floorMod_7cf53_1 : decode cJ9_floorMod_7cf53 1 = .ok (.iload_n 1, 1) := by decide +kernel
theorem dJ9_floorMod_7cf53_2 : decode cJ9_floorMod_7cf53 2 = .ok (.irem, 1) := by decide +kernel
theorem dJ9_floorMod_7cf53_3 : decode cJ9_floorMod_7cf53 3 = .ok (.istore_n 2, 1) := by decide +kernel
theorem dJ9_floorMod_7cf53_4 : decode cJ9_floorMod_7cf53 4 = .ok (.iload_n 0, 1) := by decide +kernel
theorem dJ9_floorMod_7cf53_5 : decode cJ9_floorMod_7cf53 5 = .ok (.iload_n 1, 1) := by decide +kernel
theorem dJ9_floorMod_7cf53_6 : decode cJ9_floorMod_7cf53 6 = .ok (.ixor, 1) := by decide +kernel
theorem dJ9_floorMod_7cf53_7 : decode cJ9_floorMod_7cf53 7 = .ok (.ifCond .ge 11, 3) := by decide +kernel
theorem dJ9_floorMod_7cf53_10 : decode cJ9_floorMod_7cf53 10 = .ok (.iload_n 2, 1) := by decide +kernel
theorem dJ9_floorMod_7cf53_11 : decode cJ9_floorMod_7cf53 11 = .ok (.ifCond .eq 7, 3) := by decide +kernel
theorem dJ9_floorMod_7cf53_14 : decode cJ9_floorMod_7cf53 14 = .ok (.iload_n 2, 1) := by decide +kernel
theorem dJ9_floorMod_7cf53_15 : decode cJ9_floorMod_7cf53 15 = .ok (.iload_n 1, 1) := by decide +kernel
theorem dJ9_floorMod_7cf53_16 : decode cJ9_floorMod_7cf53 16 = .ok (.iadd, 1) := by decide +kernel
theorem dJ9_floorMod_7cf53_17 : decode cJ9_floorMod_7cf53 17 = .ok (.ireturn, 1) := by decide +kernel
theorem dJ9_floorMod_7cf53_18 : decode cJ9_floorMod_7cf53 18 = .ok (.iload_n 2, 1) := by decide +kernel
theorem dJ9_floorMod_7cf53_19 : decode cJ9_floorMod_7cf53 19 = .ok (.ireturn, 1) := by decide +kernel
theorem dJ9_max_7cf53_0 : decode cJ9_max_7cf53 0 = .ok (.iload_n 0, 1) := by decide +kernel
theorem dJ9_max_7cf53_1 : decode cJ9_max_7cf53 1 = .ok (.iload_n 1, 1) := by decide +kernel
theorem dJ9_max_7cf53_2 : decode cJ9_max_7cf53 2 = .ok (.if_icmp .lt 7, 3) := by decide +kernel
theorem dJ9_max_7cf53_5 : decode cJ9_max_7cf53 5 = .ok (.iload_n 0, 1) := by decide +kernel
theorem dJ9_max_7cf53_6 : decode cJ9_max_7cf53 6 = .ok (.goto 4, 3) := by decide +kernel
theorem dJ9_max_7cf53_9 : decode cJ9_max_7cf53 9 = .ok (.iload_n 1, 1) := by decide +kernel
theorem dJ9_max_7cf53_10 : decode cJ9_max_7cf53 10 = .ok (.ireturn, 1) := by decide +kernel
theorem dJ9_min_7cf53_0 : decode cJ9_min_7cf53 0 = .ok (.iload_n 0, 1) := by decide +kernel
theorem dJ9_min_7cf53_1 : decode cJ9_min_7cf53 1 = .ok (.iload_n 1, 1) := by decide +kernel
theorem dJ9_min_7cf53_2 : decode cJ9_min_7cf53 2 = .ok (.if_icmp .gt 7, 3) := by decide +kernel
theorem dJ9_min_7cf53_5 : decode cJ9_min_7cf53 5 = .ok (.iload_n 0, 1) := by decide +kernel
theorem dJ9_min_7cf53_6 : decode cJ9_min_7cf53 6 = .ok (.goto 4, 3) := by decide +kernel
theorem dJ9_min_7cf53_9 : decode cJ9_min_7cf53 9 = .ok (.iload_n 1, 1) := by decide +kernel
theorem dJ9_min_7cf53_10 : decode cJ9_min_7cf53 10 = .ok (.ireturn, 1) := by decide +kernel
set_option maxRecDepth 20000 in
theorem dJ0_length_8abf5_0 : decode cJ0_length_8abf5 0 = .ok (.aload_n 0, 1) := by decide +kernel
theorem dJ0_length_8abf5_1 : decode cJ0_length_8abf5 1 = .ok (.getfield 9, 3) := by decide +kernel
theorem dJ0_length_8abf5_4 : decode cJ0_length_8abf5 4 = .ok (.arraylength, 1) := by decide +kernel
theorem dJ0_length_8abf5_5 : decode cJ0_length_8abf5 5 = .ok (.aload_n 0, 1) := by decide +kernel
theorem dJ0_length_8abf5_6 : decode cJ0_length_8abf5 6 = .ok (.invokevirtual 335, 3) := by decide +kernel
theorem dJ0_length_8abf5_9 : decode cJ0_length_8abf5 9 = .ok (.ishr, 1) := by decide +kernel
theorem dJ0_length_8abf5_10 : decode cJ0_length_8abf5 10 = .ok (.ireturn, 1) := by decide +kernel
set_option maxRecDepth 20000 in
theorem dJ0_charAt_5068e_0 : decode cJ0_charAt_5068e 0 = .ok (.aload_n 0, 1) := by decide +kernel
theorem dJ0_charAt_5068e_1 : decode cJ0_charAt_5068e 1 = .ok (.invokevirtual 492, 3) := by decide +kernel
theorem dJ0_charAt_5068e_4 : decode cJ0_charAt_5068e 4 = .ok (.ifCond .eq 12, 3) := by decide +kernel
theorem dJ0_charAt_5068e_7 : decode cJ0_charAt_5068e 7 = .ok (.aload_n 0, 1) := by decide +kernel
theorem dJ0_charAt_5068e_8 : decode cJ0_charAt_5068e 8 = .ok (.getfield 9, 3) := by decide +kernel
theorem dJ0_charAt_5068e_11 : decode cJ0_charAt_5068e 11 = .ok (.iload_n 1, 1) := by decide +kernel
theorem dJ0_charAt_5068e_12 : decode cJ0_charAt_5068e 12 = .ok (.invokestatic 495, 3) := by decide +kernel
theorem dJ0_charAt_5068e_15 : decode cJ0_charAt_5068e 15 = .ok (.ireturn, 1) := by decide +kernel
theorem dJ0_charAt_5068e_16 : decode cJ0_charAt_5068e 16 = .ok (.aload_n 0, 1) := by decide +kernel
theorem dJ0_charAt_5068e_17 : decode cJ0_charAt_5068e 17 = .ok (.getfield 9, 3) := by decide +kernel
theorem dJ0_charAt_5068e_20 : decode cJ0_charAt_5068e 20 = .ok (.iload_n 1, 1) := by decide +kernel
theorem dJ0_charAt_5068e_21 : decode cJ0_charAt_5068e 21 = .ok (.invokestatic 498, 3) := by decide +kernel
theorem dJ0_charAt_5068e_24 : decode cJ0_charAt_5068e 24 = .ok (.ireturn, 1) := by decide +kernel
theorem dJ0_coder_7d493_0 : decode cJ0_coder_7d493 0 = .ok (.getstatic 38, 3) := by decide +kernel
theorem dJ0_coder_7d493_3 : decode cJ0_coder_7d493 3 = .ok (.ifCond .eq 10, 3) := by decide +kernel
theorem dJ0_coder_7d493_6 : decode cJ0_coder_7d493 6 = .ok (.aload_n 0, 1) := by decide +kernel
theorem dJ0_coder_7d493_7 : decode cJ0_coder_7d493 7 = .ok (.getfield 15, 3) := by decide +kernel
theorem dJ0_coder_7d493_10 : decode cJ0_coder_7d493 10 = .ok (.goto 4, 3) := by decide +kernel
theorem dJ0_coder_7d493_13 : decode cJ0_coder_7d493 13 = .ok (.iconst 1, 1) := by decide +kernel
theorem dJ0_coder_7d493_14 : decode cJ0_coder_7d493 14 = .ok (.ireturn, 1) := by decide +kernel
theorem dJ0_isLatin1_aae02_0 : decode cJ0_isLatin1_aae02 0 = .ok (.getstatic 38, 3) := by decide +kernel
theorem dJ0_isLatin1_aae02_3 : decode cJ0_isLatin1_aae02 3 = .ok (.ifCond .eq 14, 3) := by decide +kernel
theorem dJ0_isLatin1_aae02_6 : decode cJ0_isLatin1_aae02 6 = .ok (.aload_n 0, 1) := by decide +kernel
theorem dJ0_isLatin1_aae02_7 : decode cJ0_isLatin1_aae02 7 = .ok (.getfield 15, 3) := by decide +kernel
theorem dJ0_isLatin1_aae02_10 : decode cJ0_isLatin1_aae02 10 = .ok (.ifCond .ne 7, 3) := by decide +kernel
theorem dJ0_isLatin1_aae02_13 : decode cJ0_isLatin1_aae02 13 = .ok (.iconst 1, 1) := by decide +kernel
theorem dJ0_isLatin1_aae02_14 : decode cJ0_isLatin1_aae02 14 = .ok (.goto 4, 3) := by decide +kernel
theorem dJ0_isLatin1_aae02_17 : decode cJ0_isLatin1_aae02 17 = .ok (.iconst 0, 1) := by decide +kernel
theorem dJ0_isLatin1_aae02_18 : decode cJ0_isLatin1_aae02 18 = .ok (.ireturn, 1) := by decide +kernel
set_option maxRecDepth 20000 in
theorem dJ0_checkIndex_df160_0 : decode cJ0_checkIndex_df160 0 = .ok (.iload_n 0, 1) := by decide +kernel
theorem dJ0_checkIndex_df160_1 : decode cJ0_checkIndex_df160 1 = .ok (.iload_n 1, 1) := by decide +kernel
theorem dJ0_checkIndex_df160_2 : decode cJ0_checkIndex_df160 2 = .ok (.getstatic 1053, 3) := by decide +kernel
theorem dJ0_checkIndex_df160_5 : decode cJ0_checkIndex_df160 5 = .ok (.invokestatic 1059, 3) := by decide +kernel
theorem dJ0_checkIndex_df160_8 : decode cJ0_checkIndex_df160 8 = .ok (.pop, 1) := by decide +kernel
theorem dJ0_checkIndex_df160_9 : decode cJ0_checkIndex_df160 9 = .ok (.return_, 1) := by decide +kernel
set_option maxRecDepth 20000 in
theorem dJ1_charAt_3b067_0 : decode cJ1_charAt_3b067 0 = .ok (.iload_n 1, 1) := by decide +kernel
theorem dJ1_charAt_3b067_1 : decode cJ1_charAt_3b067 1 = .ok (.aload_n 0, 1) := by decide +kernel
theorem dJ1_charAt_3b067_2 : decode cJ1_charAt_3b067 2 = .ok (.arraylength, 1) := by decide +kernel
theorem dJ1_charAt_3b067_3 : decode cJ1_charAt_3b067 3 = .ok (.invokestatic 9, 3) := by decide +kernel
theorem dJ1_charAt_3b067_6 : decode cJ1_charAt_3b067 6 = .ok (.aload_n 0, 1) := by decide +kernel
theorem dJ1_charAt_3b067_7 : decode cJ1_charAt_3b067 7 = .ok (.iload_n 1, 1) := by decide +kernel
theorem dJ1_charAt_3b067_8 : decode cJ1_charAt_3b067 8 = .ok (.baload, 1) := by decide +kernel
theorem dJ1_charAt_3b067_9 : decode cJ1_charAt_3b067 9 = .ok (.sipush 255, 3) := by decide +kernel
theorem dJ1_charAt_3b067_12 : decode cJ1_charAt_3b067 12 = .ok (.iand, 1) := by decide +kernel
theorem dJ1_charAt_3b067_13 : decode cJ1_charAt_3b067 13 = .ok (.i2c, 1) := by decide +kernel
theorem dJ1_charAt_3b067_14 : decode cJ1_charAt_3b067 14 = .ok (.ireturn, 1) := by decide +kernel
set_option maxRecDepth 20000 in
theorem dJ2_getChar_3b067_0 : decode cJ2_getChar_3b067 0 = .ok (.getstatic 44, 3) := by decide +kernel
theorem dJ2_getChar_3b067_3 : decode cJ2_getChar_3b067 3 = .ok (.ifCond .ne 25, 3) := by decide +kernel
theorem dJ2_getChar_3b067_6 : decode cJ2_getChar_3b067 6 = .ok (.iload_n 1, 1) := by decide +kernel
theorem dJ2_getChar_3b067_7 : decode cJ2_getChar_3b067 7 = .ok (.ifCond .lt 11, 3) := by decide +kernel
theorem dJ2_getChar_3b067_10 : decode cJ2_getChar_3b067 10 = .ok (.iload_n 1, 1) := by decide +kernel
theorem dJ2_getChar_3b067_11 : decode cJ2_getChar_3b067 11 = .ok (.aload_n 0, 1) := by decide +kernel
theorem dJ2_getChar_3b067_12 : decode cJ2_getChar_3b067 12 = .ok (.invokestatic 48, 3) := by decide +kernel
theorem dJ2_getChar_3b067_15 : decode cJ2_getChar_3b067 15 = .ok (.if_icmp .lt 13, 3) := by decide +kernel
theorem dJ2_getChar_3b067_18 : decode cJ2_getChar_3b067 18 = .ok (.new 52, 3) := by decide +kernel
theorem dJ2_getChar_3b067_21 : decode cJ2_getChar_3b067 21 = .ok (.dup, 1) := by decide +kernel
theorem dJ2_getChar_3b067_22 : decode cJ2_getChar_3b067 22 = .ok (.ldc 54, 2) := by decide +kernel
theorem dJ2_getChar_3b067_24 : decode cJ2_getChar_3b067 24 = .ok (.invokespecial 56, 3) := by decide +kernel
theorem dJ2_getChar_3b067_27 : decode cJ2_getChar_3b067 27 = .ok (.athrow, 1) := by decide +kernel
theorem dJ2_getChar_3b067_28 : decode cJ2_getChar_3b067 28 = .ok (.iload_n 1, 1) := by decide +kernel
theorem dJ2_getChar_3b067_29 : decode cJ2_getChar_3b067 29 = .ok (.iconst 1, 1) := by decide +kernel
theorem dJ2_getChar_3b067_30 : decode cJ2_getChar_3b067 30 = .ok (.ishl, 1) := by decide +kernel
theorem dJ2_getChar_3b067_31 : decode cJ2_getChar_3b067 31 = .ok (.istore_n 1, 1) := by decide +kernel
theorem dJ2_getChar_3b067_32 : decode cJ2_getChar_3b067 32 = .ok (.aload_n 0, 1) := by decide +kernel
theorem dJ2_getChar_3b067_33 : decode cJ2_getChar_3b067 33 = .ok (.iload_n 1, 1) := by decide +kernel
theorem dJ2_getChar_3b067_34 : decode cJ2_getChar_3b067 34 = .ok (.iinc 1 1, 3) := by decide +kernel
theorem dJ2_getChar_3b067_37 : decode cJ2_getChar_3b067 37 = .ok (.baload, 1) := by decide +kernel
theorem dJ2_getChar_3b067_38 : decode cJ2_getChar_3b067 38 = .ok (.sipush 255, 3) := by decide +kernel
theorem dJ2_getChar_3b067_41 : decode cJ2_getChar_3b067 41 = .ok (.iand, 1) := by decide +kernel
theorem dJ2_getChar_3b067_42 : decode cJ2_getChar_3b067 42 = .ok (.getstatic 59, 3) := by decide +kernel
theorem dJ2_getChar_3b067_45 : decode cJ2_getChar_3b067 45 = .ok (.ishl, 1) := by decide +kernel
theorem dJ2_getChar_3b067_46 : decode cJ2_getChar_3b067 46 = .ok (.aload_n 0, 1) := by decide +kernel
theorem dJ2_getChar_3b067_47 : decode cJ2_getChar_3b067 47 = .ok (.iload_n 1, 1) := by decide +kernel
theorem dJ2_getChar_3b067_48 : decode cJ2_getChar_3b067 48 = .ok (.baload, 1) := by decide +kernel
theorem dJ2_getChar_3b067_49 : decode cJ2_getChar_3b067 49 = .ok (.sipush 255, 3) := by decide +kernel
theorem dJ2_getChar_3b067_52 : decode cJ2_getChar_3b067 52 = .ok (.iand, 1) := by decide +kernel
theorem dJ2_getChar_3b067_53 : decode cJ2_getChar_3b067 53 = .ok (.getstatic 63, 3) := by decide +kernel
theorem dJ2_getChar_3b067_56 : decode cJ2_getChar_3b067 56 = .ok (.ishl, 1) := by decide +kernel
theorem dJ2_getChar_3b067_57 : decode cJ2_getChar_3b067 57 = .ok (.ior, 1) := by decide +kernel
theorem dJ2_getChar_3b067_58 : decode cJ2_getChar_3b067 58 = .ok (.i2c, 1) := by decide +kernel
theorem dJ2_getChar_3b067_59 : decode cJ2_getChar_3b067 59 = .ok (.ireturn, 1) := by decide +kernel
theorem dJ2_length_9d52b_0 : decode cJ2_length_9d52b 0 = .ok (.aload_n 0, 1) := by decide +kernel
theorem dJ2_length_9d52b_1 : decode cJ2_length_9d52b 1 = .ok (.arraylength, 1) := by decide +kernel
theorem dJ2_length_9d52b_2 : decode cJ2_length_9d52b 2 = .ok (.iconst 1, 1) := by decide +kernel
theorem dJ2_length_9d52b_3 : decode cJ2_length_9d52b 3 = .ok (.ishr, 1) := by decide +kernel
theorem dJ2_length_9d52b_4 : decode cJ2_length_9d52b 4 = .ok (.ireturn, 1) := by decide +kernel
set_option maxRecDepth 20000 in
theorem dJ2_charAt_3b067_0 : decode cJ2_charAt_3b067 0 = .ok (.iload_n 1, 1) := by decide +kernel
theorem dJ2_charAt_3b067_1 : decode cJ2_charAt_3b067 1 = .ok (.aload_n 0, 1) := by decide +kernel
theorem dJ2_charAt_3b067_2 : decode cJ2_charAt_3b067 2 = .ok (.invokestatic 67, 3) := by decide +kernel
theorem dJ2_charAt_3b067_5 : decode cJ2_charAt_3b067 5 = .ok (.aload_n 0, 1) := by decide +kernel
theorem dJ2_charAt_3b067_6 : decode cJ2_charAt_3b067 6 = .ok (.iload_n 1, 1) := by decide +kernel
theorem dJ2_charAt_3b067_7 : decode cJ2_charAt_3b067 7 = .ok (.invokestatic 71, 3) := by decide +kernel
theorem dJ2_charAt_3b067_10 : decode cJ2_charAt_3b067 10 = .ok (.ireturn, 1) := by decide +kernel
set_option maxRecDepth 20000 in
theorem dJ2_checkIndex_2214a_0 : decode cJ2_checkIndex_2214a 0 = .ok (.iload_n 0, 1) := by decide +kernel
theorem dJ2_checkIndex_2214a_1 : decode cJ2_checkIndex_2214a 1 = .ok (.aload_n 1, 1) := by decide +kernel
theorem dJ2_checkIndex_2214a_2 : decode cJ2_checkIndex_2214a 2 = .ok (.invokestatic 48, 3) := by decide +kernel
theorem dJ2_checkIndex_2214a_5 : decode cJ2_checkIndex_2214a 5 = .ok (.invokestatic 414, 3) := by decide +kernel
theorem dJ2_checkIndex_2214a_8 : decode cJ2_checkIndex_2214a 8 = .ok (.return_, 1) := by decide +kernel
theorem dJ7_fill_53178_0 : decode cJ7_fill_53178 0 = .ok (.iconst 0, 1) := by decide +kernel
theorem dJ7_fill_53178_1 : decode cJ7_fill_53178 1 = .ok (.istore_n 2, 1) := by decide +kernel
theorem dJ7_fill_53178_2 : decode cJ7_fill_53178 2 = .ok (.aload_n 0, 1) := by decide +kernel
theorem dJ7_fill_53178_3 : decode cJ7_fill_53178 3 = .ok (.arraylength, 1) := by decide +kernel
theorem dJ7_fill_53178_4 : decode cJ7_fill_53178 4 = .ok (.istore_n 3, 1) := by decide +kernel
theorem dJ7_fill_53178_5 : decode cJ7_fill_53178 5 = .ok (.iload_n 2, 1) := by decide +kernel
theorem dJ7_fill_53178_6 : decode cJ7_fill_53178 6 = .ok (.iload_n 3, 1) := by decide +kernel
theorem dJ7_fill_53178_7 : decode cJ7_fill_53178 7 = .ok (.if_icmp .ge 13, 3) := by decide +kernel
theorem dJ7_fill_53178_10 : decode cJ7_fill_53178 10 = .ok (.aload_n 0, 1) := by decide +kernel
theorem dJ7_fill_53178_11 : decode cJ7_fill_53178 11 = .ok (.iload_n 2, 1) := by decide +kernel
theorem dJ7_fill_53178_12 : decode cJ7_fill_53178 12 = .ok (.iload_n 1, 1) := by decide +kernel
theorem dJ7_fill_53178_13 : decode cJ7_fill_53178 13 = .ok (.iastore, 1) := by decide +kernel
theorem dJ7_fill_53178_14 : decode cJ7_fill_53178 14 = .ok (.iinc 2 1, 3) := by decide +kernel
theorem dJ7_fill_53178_17 : decode cJ7_fill_53178 17 = .ok (.goto (-12), 3) := by decide +kernel
theorem dJ7_fill_53178_20 : decode cJ7_fill_53178 20 = .ok (.return_, 1) := by decide +kernel
theorem dJ7_copyOf_59c91_0 : decode cJ7_copyOf_59c91 0 = .ok (.iload_n 1, 1) := by decide +kernel
theorem dJ7_copyOf_59c91_1 : decode cJ7_copyOf_59c91 1 = .ok (.aload_n 0, 1) := by decide +kernel
theorem dJ7_copyOf_59c91_2 : decode cJ7_copyOf_59c91 2 = .ok (.arraylength, 1) := by decide +kernel
theorem dJ7_copyOf_59c91_3 : decode cJ7_copyOf_59c91 3 = .ok (.if_icmp .ne 11, 3) := by decide +kernel
theorem dJ7_copyOf_59c91_6 : decode cJ7_copyOf_59c91 6 = .ok (.aload_n 0, 1) := by decide +kernel
theorem dJ7_copyOf_59c91_7 : decode cJ7_copyOf_59c91 7 = .ok (.invokevirtual 316, 3) := by decide +kernel
theorem dJ7_copyOf_59c91_10 : decode cJ7_copyOf_59c91 10 = .ok (.checkcast 317, 3) := by decide +kernel
theorem dJ7_copyOf_59c91_13 : decode cJ7_copyOf_59c91 13 = .ok (.areturn, 1) := by decide +kernel
theorem dJ7_copyOf_59c91_14 : decode cJ7_copyOf_59c91 14 = .ok (.iload_n 1, 1) := by decide +kernel
theorem dJ7_copyOf_59c91_15 : decode cJ7_copyOf_59c91 15 = .ok (.newarray .int, 2) := by decide +kernel
theorem dJ7_copyOf_59c91_17 : decode cJ7_copyOf_59c91 17 = .ok (.astore_n 2, 1) := by decide +kernel
theorem dJ7_copyOf_59c91_18 : decode cJ7_copyOf_59c91 18 = .ok (.aload_n 0, 1) := by decide +kernel
theorem dJ7_copyOf_59c91_19 : decode cJ7_copyOf_59c91 19 = .ok (.iconst 0, 1) := by decide +kernel
theorem dJ7_copyOf_59c91_20 : decode cJ7_copyOf_59c91 20 = .ok (.aload_n 2, 1) := by decide +kernel
theorem dJ7_copyOf_59c91_21 : decode cJ7_copyOf_59c91 21 = .ok (.iconst 0, 1) := by decide +kernel
theorem dJ7_copyOf_59c91_22 : decode cJ7_copyOf_59c91 22 = .ok (.aload_n 0, 1) := by decide +kernel
theorem dJ7_copyOf_59c91_23 : decode cJ7_copyOf_59c91 23 = .ok (.arraylength, 1) := by decide +kernel
theorem dJ7_copyOf_59c91_24 : decode cJ7_copyOf_59c91 24 = .ok (.iload_n 1, 1) := by decide +kernel
theorem dJ7_copyOf_59c91_25 : decode cJ7_copyOf_59c91 25 = .ok (.invokestatic 304, 3) := by decide +kernel
theorem dJ7_copyOf_59c91_28 : decode cJ7_copyOf_59c91 28 = .ok (.invokestatic 150, 3) := by decide +kernel
theorem dJ7_copyOf_59c91_31 : decode cJ7_copyOf_59c91 31 = .ok (.aload_n 2, 1) := by decide +kernel
theorem dJ7_copyOf_59c91_32 : decode cJ7_copyOf_59c91 32 = .ok (.areturn, 1) := by decide +kernel
theorem dJ3_checkIndex_8e157_0 : decode cJ3_checkIndex_8e157 0 = .ok (.iload_n 0, 1) := by decide +kernel
theorem dJ3_checkIndex_8e157_1 : decode cJ3_checkIndex_8e157 1 = .ok (.ifCond .lt 8, 3) := by decide +kernel
theorem dJ3_checkIndex_8e157_4 : decode cJ3_checkIndex_8e157 4 = .ok (.iload_n 0, 1) := by decide +kernel
theorem dJ3_checkIndex_8e157_5 : decode cJ3_checkIndex_8e157 5 = .ok (.iload_n 1, 1) := by decide +kernel
theorem dJ3_checkIndex_8e157_6 : decode cJ3_checkIndex_8e157 6 = .ok (.if_icmp .lt 10, 3) := by decide +kernel
theorem dJ3_checkIndex_8e157_9 : decode cJ3_checkIndex_8e157 9 = .ok (.aload_n 2, 1) := by decide +kernel
theorem dJ3_checkIndex_8e157_10 : decode cJ3_checkIndex_8e157 10 = .ok (.iload_n 0, 1) := by decide +kernel
theorem dJ3_checkIndex_8e157_11 : decode cJ3_checkIndex_8e157 11 = .ok (.iload_n 1, 1) := by decide +kernel
theorem dJ3_checkIndex_8e157_12 : decode cJ3_checkIndex_8e157 12 = .ok (.invokestatic 95, 3) := by decide +kernel
theorem dJ3_checkIndex_8e157_15 : decode cJ3_checkIndex_8e157 15 = .ok (.athrow, 1) := by decide +kernel
theorem dJ3_checkIndex_8e157_16 : decode cJ3_checkIndex_8e157 16 = .ok (.iload_n 0, 1) := by decide +kernel
theorem dJ3_checkIndex_8e157_17 : decode cJ3_checkIndex_8e157 17 = .ok (.ireturn, 1) := by decide +kernel
set_option maxRecDepth 20000 in
theorem dL_law_0 : decode cL_law 0 = .ok (.new 7, 3) := by decide +kernel
theorem dL_law_3 : decode cL_law 3 = .ok (.dup, 1) := by decide +kernel
theorem dL_law_4 : decode cL_law 4 = .ok (.invokespecial 9, 3) := by decide +kernel
theorem dL_law_7 : decode cL_law 7 = .ok (.astore_n 1, 1) := by decide +kernel
theorem dL_law_8 : decode cL_law 8 = .ok (.new 10, 3) := by decide +kernel
theorem dL_law_11 : decode cL_law 11 = .ok (.dup, 1) := by decide +kernel
theorem dL_law_12 : decode cL_law 12 = .ok (.invokespecial 12, 3) := by decide +kernel
theorem dL_law_15 : decode cL_law 15 = .ok (.astore_n 2, 1) := by decide +kernel
theorem dL_law_16 : decode cL_law 16 = .ok (.iconst 0, 1) := by decide +kernel
theorem dL_law_17 : decode cL_law 17 = .ok (.istore_n 3, 1) := by decide +kernel
theorem dL_law_18 : decode cL_law 18 = .ok (.iload_n 3, 1) := by decide +kernel
theorem dL_law_19 : decode cL_law 19 = .ok (.aload_n 0, 1) := by decide +kernel
theorem dL_law_20 : decode cL_law 20 = .ok (.arraylength, 1) := by decide +kernel
theorem dL_law_21 : decode cL_law 21 = .ok (.bipush 6, 2) := by decide +kernel
theorem dL_law_23 : decode cL_law 23 = .ok (.isub, 1) := by decide +kernel
theorem dL_law_24 : decode cL_law 24 = .ok (.if_icmp .gt 1148, 3) := by decide +kernel
theorem dL_law_27 : decode cL_law 27 = .ok (.aload_n 0, 1) := by decide +kernel
theorem dL_law_28 : decode cL_law 28 = .ok (.iload_n 3, 1) := by decide +kernel
theorem dL_law_29 : decode cL_law 29 = .ok (.iaload, 1) := by decide +kernel
theorem dL_law_30 : decode cL_law 30 = .ok (.bipush 31, 2) := by decide +kernel
theorem dL_law_32 : decode cL_law 32 = .ok (.iand, 1) := by decide +kernel
theorem dL_law_33 : decode cL_law 33 = .ok (.tableswitch 1133 0 28 #[131, 174, 217, 250, 283, 307, 330, 343, 366, 379, 422, 465, 498, 532, 565, 608, 632, 675, 709, 752, 795, 849, 862, 875, 898, 941, 984, 1047, 1100], 131) := by decide +kernel
theorem dL_law_164 : decode cL_law 164 = .ok (.aload_n 1, 1) := by decide +kernel
theorem dL_law_165 : decode cL_law 165 = .ok (.aload_n 0, 1) := by decide +kernel
theorem dL_law_166 : decode cL_law 166 = .ok (.iload_n 3, 1) := by decide +kernel
theorem dL_law_167 : decode cL_law 167 = .ok (.iconst 1, 1) := by decide +kernel
theorem dL_law_168 : decode cL_law 168 = .ok (.iadd, 1) := by decide +kernel
theorem dL_law_169 : decode cL_law 169 = .ok (.iaload, 1) := by decide +kernel
theorem dL_law_170 : decode cL_law 170 = .ok (.aload_n 0, 1) := by decide +kernel
theorem dL_law_171 : decode cL_law 171 = .ok (.iload_n 3, 1) := by decide +kernel
theorem dL_law_172 : decode cL_law 172 = .ok (.iconst 2, 1) := by decide +kernel
theorem dL_law_173 : decode cL_law 173 = .ok (.iadd, 1) := by decide +kernel
theorem dL_law_174 : decode cL_law 174 = .ok (.iaload, 1) := by decide +kernel
theorem dL_law_175 : decode cL_law 175 = .ok (.aload_n 0, 1) := by decide +kernel
theorem dL_law_176 : decode cL_law 176 = .ok (.iload_n 3, 1) := by decide +kernel
theorem dL_law_177 : decode cL_law 177 = .ok (.iconst 3, 1) := by decide +kernel
theorem dL_law_178 : decode cL_law 178 = .ok (.iadd, 1) := by decide +kernel
theorem dL_law_179 : decode cL_law 179 = .ok (.iaload, 1) := by decide +kernel
theorem dL_law_180 : decode cL_law 180 = .ok (.invokevirtual 13, 3) := by decide +kernel
theorem dL_law_183 : decode cL_law 183 = .ok (.aload_n 2, 1) := by decide +kernel
theorem dL_law_184 : decode cL_law 184 = .ok (.aload_n 0, 1) := by decide +kernel
theorem dL_law_185 : decode cL_law 185 = .ok (.iload_n 3, 1) := by decide +kernel
theorem dL_law_186 : decode cL_law 186 = .ok (.iconst 1, 1) := by decide +kernel
theorem dL_law_187 : decode cL_law 187 = .ok (.iadd, 1) := by decide +kernel
theorem dL_law_188 : decode cL_law 188 = .ok (.iaload, 1) := by decide +kernel
theorem dL_law_189 : decode cL_law 189 = .ok (.aload_n 0, 1) := by decide +kernel
theorem dL_law_190 : decode cL_law 190 = .ok (.iload_n 3, 1) := by decide +kernel
theorem dL_law_191 : decode cL_law 191 = .ok (.iconst 2, 1) := by decide +kernel
theorem dL_law_192 : decode cL_law 192 = .ok (.iadd, 1) := by decide +kernel
theorem dL_law_193 : decode cL_law 193 = .ok (.iaload, 1) := by decide +kernel
theorem dL_law_194 : decode cL_law 194 = .ok (.aload_n 0, 1) := by decide +kernel
theorem dL_law_195 : decode cL_law 195 = .ok (.iload_n 3, 1) := by decide +kernel
theorem dL_law_196 : decode cL_law 196 = .ok (.iconst 3, 1) := by decide +kernel
theorem dL_law_197 : decode cL_law 197 = .ok (.iadd, 1) := by decide +kernel
theorem dL_law_198 : decode cL_law 198 = .ok (.iaload, 1) := by decide +kernel
theorem dL_law_199 : decode cL_law 199 = .ok (.invokevirtual 17, 3) := by decide +kernel
theorem dL_law_202 : decode cL_law 202 = .ok (.if_icmp .eq 964, 3) := by decide +kernel
theorem dL_law_205 : decode cL_law 205 = .ok (.iconst 0, 1) := by decide +kernel
theorem dL_law_206 : decode cL_law 206 = .ok (.ireturn, 1) := by decide +kernel
theorem dL_law_207 : decode cL_law 207 = .ok (.aload_n 1, 1) := by decide +kernel
theorem dL_law_208 : decode cL_law 208 = .ok (.aload_n 0, 1) := by decide +kernel
theorem dL_law_209 : decode cL_law 209 = .ok (.iload_n 3, 1) := by decide +kernel
theorem dL_law_210 : decode cL_law 210 = .ok (.iconst 1, 1) := by decide +kernel
theorem dL_law_211 : decode cL_law 211 = .ok (.iadd, 1) := by decide +kernel
theorem dL_law_212 : decode cL_law 212 = .ok (.iaload, 1) := by decide +kernel
theorem dL_law_213 : decode cL_law 213 = .ok (.aload_n 0, 1) := by decide +kernel
theorem dL_law_214 : decode cL_law 214 = .ok (.iload_n 3, 1) := by decide +kernel
theorem dL_law_215 : decode cL_law 215 = .ok (.iconst 2, 1) := by decide +kernel
theorem dL_law_216 : decode cL_law 216 = .ok (.iadd, 1) := by decide +kernel
theorem dL_law_217 : decode cL_law 217 = .ok (.iaload, 1) := by decide +kernel
theorem dL_law_218 : decode cL_law 218 = .ok (.aload_n 0, 1) := by decide +kernel
theorem dL_law_219 : decode cL_law 219 = .ok (.iload_n 3, 1) := by decide +kernel
theorem dL_law_220 : decode cL_law 220 = .ok (.iconst 3, 1) := by decide +kernel
theorem dL_law_221 : decode cL_law 221 = .ok (.iadd, 1) := by decide +kernel
theorem dL_law_222 : decode cL_law 222 = .ok (.iaload, 1) := by decide +kernel
theorem dL_law_223 : decode cL_law 223 = .ok (.invokevirtual 18, 3) := by decide +kernel
theorem dL_law_226 : decode cL_law 226 = .ok (.aload_n 2, 1) := by decide +kernel
theorem dL_law_227 : decode cL_law 227 = .ok (.aload_n 0, 1) := by decide +kernel
theorem dL_law_228 : decode cL_law 228 = .ok (.iload_n 3, 1) := by decide +kernel
theorem dL_law_229 : decode cL_law 229 = .ok (.iconst 1, 1) := by decide +kernel
theorem dL_law_230 : decode cL_law 230 = .ok (.iadd, 1) := by decide +kernel
theorem dL_law_231 : decode cL_law 231 = .ok (.iaload, 1) := by decide +kernel
theorem dL_law_232 : decode cL_law 232 = .ok (.aload_n 0, 1) := by decide +kernel
theorem dL_law_233 : decode cL_law 233 = .ok (.iload_n 3, 1) := by decide +kernel
theorem dL_law_234 : decode cL_law 234 = .ok (.iconst 2, 1) := by decide +kernel
theorem dL_law_235 : decode cL_law 235 = .ok (.iadd, 1) := by decide +kernel
theorem dL_law_236 : decode cL_law 236 = .ok (.iaload, 1) := by decide +kernel
theorem dL_law_237 : decode cL_law 237 = .ok (.aload_n 0, 1) := by decide +kernel
theorem dL_law_238 : decode cL_law 238 = .ok (.iload_n 3, 1) := by decide +kernel
theorem dL_law_239 : decode cL_law 239 = .ok (.iconst 3, 1) := by decide +kernel
theorem dL_law_240 : decode cL_law 240 = .ok (.iadd, 1) := by decide +kernel
theorem dL_law_241 : decode cL_law 241 = .ok (.iaload, 1) := by decide +kernel
theorem dL_law_242 : decode cL_law 242 = .ok (.invokevirtual 21, 3) := by decide +kernel
theorem dL_law_245 : decode cL_law 245 = .ok (.if_icmp .eq 921, 3) := by decide +kernel
theorem dL_law_248 : decode cL_law 248 = .ok (.iconst 0, 1) := by decide +kernel
theorem dL_law_249 : decode cL_law 249 = .ok (.ireturn, 1) := by decide +kernel
theorem dL_law_250 : decode cL_law 250 = .ok (.aload_n 1, 1) := by decide +kernel
theorem dL_law_251 : decode cL_law 251 = .ok (.aload_n 0, 1) := by decide +kernel
theorem dL_law_252 : decode cL_law 252 = .ok (.iload_n 3, 1) := by decide +kernel
theorem dL_law_253 : decode cL_law 253 = .ok (.iconst 1, 1) := by decide +kernel
theorem dL_law_254 : decode cL_law 254 = .ok (.iadd, 1) := by decide +kernel
theorem dL_law_255 : decode cL_law 255 = .ok (.iaload, 1) := by decide +kernel
theorem dL_law_256 : decode cL_law 256 = .ok (.aload_n 0, 1) := by decide +kernel
theorem dL_law_257 : decode cL_law 257 = .ok (.iload_n 3, 1) := by decide +kernel
theorem dL_law_258 : decode cL_law 258 = .ok (.iconst 2, 1) := by decide +kernel
theorem dL_law_259 : decode cL_law 259 = .ok (.iadd, 1) := by decide +kernel
theorem dL_law_260 : decode cL_law 260 = .ok (.iaload, 1) := by decide +kernel
theorem dL_law_261 : decode cL_law 261 = .ok (.invokevirtual 22, 3) := by decide +kernel
theorem dL_law_264 : decode cL_law 264 = .ok (.aload_n 2, 1) := by decide +kernel
theorem dL_law_265 : decode cL_law 265 = .ok (.aload_n 0, 1) := by decide +kernel
theorem dL_law_266 : decode cL_law 266 = .ok (.iload_n 3, 1) := by decide +kernel
theorem dL_law_267 : decode cL_law 267 = .ok (.iconst 1, 1) := by decide +kernel
theorem dL_law_268 : decode cL_law 268 = .ok (.iadd, 1) := by decide +kernel
theorem dL_law_269 : decode cL_law 269 = .ok (.iaload, 1) := by decide +kernel
theorem dL_law_270 : decode cL_law 270 = .ok (.aload_n 0, 1) := by decide +kernel
theorem dL_law_271 : decode cL_law 271 = .ok (.iload_n 3, 1) := by decide +kernel
theorem dL_law_272 : decode cL_law 272 = .ok (.iconst 2, 1) := by decide +kernel
theorem dL_law_273 : decode cL_law 273 = .ok (.iadd, 1) := by decide +kernel
theorem dL_law_274 : decode cL_law 274 = .ok (.iaload, 1) := by decide +kernel
theorem dL_law_275 : decode cL_law 275 = .ok (.invokevirtual 26, 3) := by decide +kernel
theorem dL_law_278 : decode cL_law 278 = .ok (.if_icmp .eq 888, 3) := by decide +kernel
theorem dL_law_281 : decode cL_law 281 = .ok (.iconst 0, 1) := by decide +kernel
theorem dL_law_282 : decode cL_law 282 = .ok (.ireturn, 1) := by decide +kernel
theorem dL_law_283 : decode cL_law 283 = .ok (.aload_n 1, 1) := by decide +kernel
theorem dL_law_284 : decode cL_law 284 = .ok (.aload_n 0, 1) := by decide +kernel
theorem dL_law_285 : decode cL_law 285 = .ok (.iload_n 3, 1) := by decide +kernel
theorem dL_law_286 : decode cL_law 286 = .ok (.iconst 1, 1) := by decide +kernel
theorem dL_law_287 : decode cL_law 287 = .ok (.iadd, 1) := by decide +kernel
theorem dL_law_288 : decode cL_law 288 = .ok (.iaload, 1) := by decide +kernel
theorem dL_law_289 : decode cL_law 289 = .ok (.aload_n 0, 1) := by decide +kernel
theorem dL_law_290 : decode cL_law 290 = .ok (.iload_n 3, 1) := by decide +kernel
theorem dL_law_291 : decode cL_law 291 = .ok (.iconst 2, 1) := by decide +kernel
theorem dL_law_292 : decode cL_law 292 = .ok (.iadd, 1) := by decide +kernel
theorem dL_law_293 : decode cL_law 293 = .ok (.iaload, 1) := by decide +kernel
theorem dL_law_294 : decode cL_law 294 = .ok (.invokevirtual 27, 3) := by decide +kernel
theorem dL_law_297 : decode cL_law 297 = .ok (.aload_n 2, 1) := by decide +kernel
theorem dL_law_298 : decode cL_law 298 = .ok (.aload_n 0, 1) := by decide +kernel
theorem dL_law_299 : decode cL_law 299 = .ok (.iload_n 3, 1) := by decide +kernel
theorem dL_law_300 : decode cL_law 300 = .ok (.iconst 1, 1) := by decide +kernel
theorem dL_law_301 : decode cL_law 301 = .ok (.iadd, 1) := by decide +kernel
theorem dL_law_302 : decode cL_law 302 = .ok (.iaload, 1) := by decide +kernel
theorem dL_law_303 : decode cL_law 303 = .ok (.aload_n 0, 1) := by decide +kernel
theorem dL_law_304 : decode cL_law 304 = .ok (.iload_n 3, 1) := by decide +kernel
theorem dL_law_305 : decode cL_law 305 = .ok (.iconst 2, 1) := by decide +kernel
theorem dL_law_306 : decode cL_law 306 = .ok (.iadd, 1) := by decide +kernel
theorem dL_law_307 : decode cL_law 307 = .ok (.iaload, 1) := by decide +kernel
theorem dL_law_308 : decode cL_law 308 = .ok (.invokevirtual 30, 3) := by decide +kernel
theorem dL_law_311 : decode cL_law 311 = .ok (.if_icmp .eq 855, 3) := by decide +kernel
theorem dL_law_314 : decode cL_law 314 = .ok (.iconst 0, 1) := by decide +kernel
theorem dL_law_315 : decode cL_law 315 = .ok (.ireturn, 1) := by decide +kernel
theorem dL_law_316 : decode cL_law 316 = .ok (.aload_n 1, 1) := by decide +kernel
theorem dL_law_317 : decode cL_law 317 = .ok (.aload_n 0, 1) := by decide +kernel
theorem dL_law_318 : decode cL_law 318 = .ok (.iload_n 3, 1) := by decide +kernel
theorem dL_law_319 : decode cL_law 319 = .ok (.iconst 1, 1) := by decide +kernel
theorem dL_law_320 : decode cL_law 320 = .ok (.iadd, 1) := by decide +kernel
theorem dL_law_321 : decode cL_law 321 = .ok (.iaload, 1) := by decide +kernel
theorem dL_law_322 : decode cL_law 322 = .ok (.invokevirtual 31, 3) := by decide +kernel
theorem dL_law_325 : decode cL_law 325 = .ok (.aload_n 2, 1) := by decide +kernel
theorem dL_law_326 : decode cL_law 326 = .ok (.aload_n 0, 1) := by decide +kernel
theorem dL_law_327 : decode cL_law 327 = .ok (.iload_n 3, 1) := by decide +kernel
theorem dL_law_328 : decode cL_law 328 = .ok (.iconst 1, 1) := by decide +kernel
theorem dL_law_329 : decode cL_law 329 = .ok (.iadd, 1) := by decide +kernel
theorem dL_law_330 : decode cL_law 330 = .ok (.iaload, 1) := by decide +kernel
theorem dL_law_331 : decode cL_law 331 = .ok (.invokevirtual 35, 3) := by decide +kernel
theorem dL_law_334 : decode cL_law 334 = .ok (.lcmp, 1) := by decide +kernel
theorem dL_law_335 : decode cL_law 335 = .ok (.ifCond .eq 831, 3) := by decide +kernel
theorem dL_law_338 : decode cL_law 338 = .ok (.iconst 0, 1) := by decide +kernel
theorem dL_law_339 : decode cL_law 339 = .ok (.ireturn, 1) := by decide +kernel
theorem dL_law_340 : decode cL_law 340 = .ok (.aload_n 1, 1) := by decide +kernel
theorem dL_law_341 : decode cL_law 341 = .ok (.aload_n 0, 1) := by decide +kernel
theorem dL_law_342 : decode cL_law 342 = .ok (.iload_n 3, 1) := by decide +kernel
theorem dL_law_343 : decode cL_law 343 = .ok (.iconst 1, 1) := by decide +kernel
theorem dL_law_344 : decode cL_law 344 = .ok (.iadd, 1) := by decide +kernel
theorem dL_law_345 : decode cL_law 345 = .ok (.iaload, 1) := by decide +kernel
theorem dL_law_346 : decode cL_law 346 = .ok (.invokevirtual 36, 3) := by decide +kernel
theorem dL_law_349 : decode cL_law 349 = .ok (.aload_n 2, 1) := by decide +kernel
theorem dL_law_350 : decode cL_law 350 = .ok (.aload_n 0, 1) := by decide +kernel
theorem dL_law_351 : decode cL_law 351 = .ok (.iload_n 3, 1) := by decide +kernel
theorem dL_law_352 : decode cL_law 352 = .ok (.iconst 1, 1) := by decide +kernel
theorem dL_law_353 : decode cL_law 353 = .ok (.iadd, 1) := by decide +kernel
theorem dL_law_354 : decode cL_law 354 = .ok (.iaload, 1) := by decide +kernel
theorem dL_law_355 : decode cL_law 355 = .ok (.invokevirtual 40, 3) := by decide +kernel
theorem dL_law_358 : decode cL_law 358 = .ok (.if_icmp .eq 808, 3) := by decide +kernel
theorem dL_law_361 : decode cL_law 361 = .ok (.iconst 0, 1) := by decide +kernel
theorem dL_law_362 : decode cL_law 362 = .ok (.ireturn, 1) := by decide +kernel
theorem dL_law_363 : decode cL_law 363 = .ok (.aload_n 1, 1) := by decide +kernel
theorem dL_law_364 : decode cL_law 364 = .ok (.invokevirtual 41, 3) := by decide +kernel
theorem dL_law_367 : decode cL_law 367 = .ok (.aload_n 2, 1) := by decide +kernel
theorem dL_law_368 : decode cL_law 368 = .ok (.invokevirtual 45, 3) := by decide +kernel
theorem dL_law_371 : decode cL_law 371 = .ok (.if_icmp .eq 795, 3) := by decide +kernel
theorem dL_law_374 : decode cL_law 374 = .ok (.iconst 0, 1) := by decide +kernel
theorem dL_law_375 : decode cL_law 375 = .ok (.ireturn, 1) := by decide +kernel
theorem dL_law_376 : decode cL_law 376 = .ok (.aload_n 1, 1) := by decide +kernel
theorem dL_law_377 : decode cL_law 377 = .ok (.aload_n 0, 1) := by decide +kernel
theorem dL_law_378 : decode cL_law 378 = .ok (.iload_n 3, 1) := by decide +kernel
theorem dL_law_379 : decode cL_law 379 = .ok (.iconst 1, 1) := by decide +kernel
theorem dL_law_380 : decode cL_law 380 = .ok (.iadd, 1) := by decide +kernel
theorem dL_law_381 : decode cL_law 381 = .ok (.iaload, 1) := by decide +kernel
theorem dL_law_382 : decode cL_law 382 = .ok (.invokevirtual 46, 3) := by decide +kernel
theorem dL_law_385 : decode cL_law 385 = .ok (.aload_n 2, 1) := by decide +kernel
theorem dL_law_386 : decode cL_law 386 = .ok (.aload_n 0, 1) := by decide +kernel
theorem dL_law_387 : decode cL_law 387 = .ok (.iload_n 3, 1) := by decide +kernel
theorem dL_law_388 : decode cL_law 388 = .ok (.iconst 1, 1) := by decide +kernel
theorem dL_law_389 : decode cL_law 389 = .ok (.iadd, 1) := by decide +kernel
theorem dL_law_390 : decode cL_law 390 = .ok (.iaload, 1) := by decide +kernel
theorem dL_law_391 : decode cL_law 391 = .ok (.invokevirtual 49, 3) := by decide +kernel
theorem dL_law_394 : decode cL_law 394 = .ok (.if_icmp .eq 772, 3) := by decide +kernel
theorem dL_law_397 : decode cL_law 397 = .ok (.iconst 0, 1) := by decide +kernel
theorem dL_law_398 : decode cL_law 398 = .ok (.ireturn, 1) := by decide +kernel
theorem dL_law_399 : decode cL_law 399 = .ok (.aload_n 1, 1) := by decide +kernel
theorem dL_law_400 : decode cL_law 400 = .ok (.invokevirtual 50, 3) := by decide +kernel
theorem dL_law_403 : decode cL_law 403 = .ok (.aload_n 2, 1) := by decide +kernel
theorem dL_law_404 : decode cL_law 404 = .ok (.invokevirtual 53, 3) := by decide +kernel
theorem dL_law_407 : decode cL_law 407 = .ok (.if_icmp .eq 759, 3) := by decide +kernel
theorem dL_law_410 : decode cL_law 410 = .ok (.iconst 0, 1) := by decide +kernel
theorem dL_law_411 : decode cL_law 411 = .ok (.ireturn, 1) := by decide +kernel
theorem dL_law_412 : decode cL_law 412 = .ok (.aload_n 1, 1) := by decide +kernel
theorem dL_law_413 : decode cL_law 413 = .ok (.aload_n 0, 1) := by decide +kernel
theorem dL_law_414 : decode cL_law 414 = .ok (.iload_n 3, 1) := by decide +kernel
theorem dL_law_415 : decode cL_law 415 = .ok (.iconst 1, 1) := by decide +kernel
theorem dL_law_416 : decode cL_law 416 = .ok (.iadd, 1) := by decide +kernel
theorem dL_law_417 : decode cL_law 417 = .ok (.iaload, 1) := by decide +kernel
theorem dL_law_418 : decode cL_law 418 = .ok (.aload_n 0, 1) := by decide +kernel
theorem dL_law_419 : decode cL_law 419 = .ok (.iload_n 3, 1) := by decide +kernel
theorem dL_law_420 : decode cL_law 420 = .ok (.iconst 2, 1) := by decide +kernel
theorem dL_law_421 : decode cL_law 421 = .ok (.iadd, 1) := by decide +kernel
theorem dL_law_422 : decode cL_law 422 = .ok (.iaload, 1) := by decide +kernel
theorem dL_law_423 : decode cL_law 423 = .ok (.aload_n 0, 1) := by decide +kernel
theorem dL_law_424 : decode cL_law 424 = .ok (.iload_n 3, 1) := by decide +kernel
theorem dL_law_425 : decode cL_law 425 = .ok (.iconst 3, 1) := by decide +kernel
theorem dL_law_426 : decode cL_law 426 = .ok (.iadd, 1) := by decide +kernel
theorem dL_law_427 : decode cL_law 427 = .ok (.iaload, 1) := by decide +kernel
theorem dL_law_428 : decode cL_law 428 = .ok (.invokevirtual 54, 3) := by decide +kernel
theorem dL_law_431 : decode cL_law 431 = .ok (.aload_n 2, 1) := by decide +kernel
theorem dL_law_432 : decode cL_law 432 = .ok (.aload_n 0, 1) := by decide +kernel
theorem dL_law_433 : decode cL_law 433 = .ok (.iload_n 3, 1) := by decide +kernel
theorem dL_law_434 : decode cL_law 434 = .ok (.iconst 1, 1) := by decide +kernel
theorem dL_law_435 : decode cL_law 435 = .ok (.iadd, 1) := by decide +kernel
theorem dL_law_436 : decode cL_law 436 = .ok (.iaload, 1) := by decide +kernel
theorem dL_law_437 : decode cL_law 437 = .ok (.aload_n 0, 1) := by decide +kernel
theorem dL_law_438 : decode cL_law 438 = .ok (.iload_n 3, 1) := by decide +kernel
theorem dL_law_439 : decode cL_law 439 = .ok (.iconst 2, 1) := by decide +kernel
theorem dL_law_440 : decode cL_law 440 = .ok (.iadd, 1) := by decide +kernel
theorem dL_law_441 : decode cL_law 441 = .ok (.iaload, 1) := by decide +kernel
theorem dL_law_442 : decode cL_law 442 = .ok (.aload_n 0, 1) := by decide +kernel
theorem dL_law_443 : decode cL_law 443 = .ok (.iload_n 3, 1) := by decide +kernel
theorem dL_law_444 : decode cL_law 444 = .ok (.iconst 3, 1) := by decide +kernel
theorem dL_law_445 : decode cL_law 445 = .ok (.iadd, 1) := by decide +kernel
theorem dL_law_446 : decode cL_law 446 = .ok (.iaload, 1) := by decide +kernel
theorem dL_law_447 : decode cL_law 447 = .ok (.invokevirtual 57, 3) := by decide +kernel
theorem dL_law_450 : decode cL_law 450 = .ok (.if_icmp .eq 716, 3) := by decide +kernel
theorem dL_law_453 : decode cL_law 453 = .ok (.iconst 0, 1) := by decide +kernel
theorem dL_law_454 : decode cL_law 454 = .ok (.ireturn, 1) := by decide +kernel
theorem dL_law_455 : decode cL_law 455 = .ok (.aload_n 1, 1) := by decide +kernel
theorem dL_law_456 : decode cL_law 456 = .ok (.aload_n 0, 1) := by decide +kernel
theorem dL_law_457 : decode cL_law 457 = .ok (.iload_n 3, 1) := by decide +kernel
theorem dL_law_458 : decode cL_law 458 = .ok (.iconst 1, 1) := by decide +kernel
theorem dL_law_459 : decode cL_law 459 = .ok (.iadd, 1) := by decide +kernel
theorem dL_law_460 : decode cL_law 460 = .ok (.iaload, 1) := by decide +kernel
theorem dL_law_461 : decode cL_law 461 = .ok (.aload_n 0, 1) := by decide +kernel
theorem dL_law_462 : decode cL_law 462 = .ok (.iload_n 3, 1) := by decide +kernel
theorem dL_law_463 : decode cL_law 463 = .ok (.iconst 2, 1) := by decide +kernel
theorem dL_law_464 : decode cL_law 464 = .ok (.iadd, 1) := by decide +kernel
theorem dL_law_465 : decode cL_law 465 = .ok (.iaload, 1) := by decide +kernel
theorem dL_law_466 : decode cL_law 466 = .ok (.aload_n 0, 1) := by decide +kernel
theorem dL_law_467 : decode cL_law 467 = .ok (.iload_n 3, 1) := by decide +kernel
theorem dL_law_468 : decode cL_law 468 = .ok (.iconst 3, 1) := by decide +kernel
theorem dL_law_469 : decode cL_law 469 = .ok (.iadd, 1) := by decide +kernel
theorem dL_law_470 : decode cL_law 470 = .ok (.iaload, 1) := by decide +kernel
theorem dL_law_471 : decode cL_law 471 = .ok (.invokevirtual 58, 3) := by decide +kernel
theorem dL_law_474 : decode cL_law 474 = .ok (.aload_n 2, 1) := by decide +kernel
theorem dL_law_475 : decode cL_law 475 = .ok (.aload_n 0, 1) := by decide +kernel
theorem dL_law_476 : decode cL_law 476 = .ok (.iload_n 3, 1) := by decide +kernel
theorem dL_law_477 : decode cL_law 477 = .ok (.iconst 1, 1) := by decide +kernel
theorem dL_law_478 : decode cL_law 478 = .ok (.iadd, 1) := by decide +kernel
theorem dL_law_479 : decode cL_law 479 = .ok (.iaload, 1) := by decide +kernel
theorem dL_law_480 : decode cL_law 480 = .ok (.aload_n 0, 1) := by decide +kernel
theorem dL_law_481 : decode cL_law 481 = .ok (.iload_n 3, 1) := by decide +kernel
theorem dL_law_482 : decode cL_law 482 = .ok (.iconst 2, 1) := by decide +kernel
theorem dL_law_483 : decode cL_law 483 = .ok (.iadd, 1) := by decide +kernel
theorem dL_law_484 : decode cL_law 484 = .ok (.iaload, 1) := by decide +kernel
theorem dL_law_485 : decode cL_law 485 = .ok (.aload_n 0, 1) := by decide +kernel
theorem dL_law_486 : decode cL_law 486 = .ok (.iload_n 3, 1) := by decide +kernel
theorem dL_law_487 : decode cL_law 487 = .ok (.iconst 3, 1) := by decide +kernel
theorem dL_law_488 : decode cL_law 488 = .ok (.iadd, 1) := by decide +kernel
theorem dL_law_489 : decode cL_law 489 = .ok (.iaload, 1) := by decide +kernel
theorem dL_law_490 : decode cL_law 490 = .ok (.invokevirtual 61, 3) := by decide +kernel
theorem dL_law_493 : decode cL_law 493 = .ok (.if_icmp .eq 673, 3) := by decide +kernel
theorem dL_law_496 : decode cL_law 496 = .ok (.iconst 0, 1) := by decide +kernel
theorem dL_law_497 : decode cL_law 497 = .ok (.ireturn, 1) := by decide +kernel
theorem dL_law_498 : decode cL_law 498 = .ok (.aload_n 1, 1) := by decide +kernel
theorem dL_law_499 : decode cL_law 499 = .ok (.aload_n 0, 1) := by decide +kernel
theorem dL_law_500 : decode cL_law 500 = .ok (.iload_n 3, 1) := by decide +kernel
theorem dL_law_501 : decode cL_law 501 = .ok (.iconst 1, 1) := by decide +kernel
theorem dL_law_502 : decode cL_law 502 = .ok (.iadd, 1) := by decide +kernel
theorem dL_law_503 : decode cL_law 503 = .ok (.iaload, 1) := by decide +kernel
theorem dL_law_504 : decode cL_law 504 = .ok (.aload_n 0, 1) := by decide +kernel
theorem dL_law_505 : decode cL_law 505 = .ok (.iload_n 3, 1) := by decide +kernel
theorem dL_law_506 : decode cL_law 506 = .ok (.iconst 2, 1) := by decide +kernel
theorem dL_law_507 : decode cL_law 507 = .ok (.iadd, 1) := by decide +kernel
theorem dL_law_508 : decode cL_law 508 = .ok (.iaload, 1) := by decide +kernel
theorem dL_law_509 : decode cL_law 509 = .ok (.invokevirtual 62, 3) := by decide +kernel
theorem dL_law_512 : decode cL_law 512 = .ok (.aload_n 2, 1) := by decide +kernel
theorem dL_law_513 : decode cL_law 513 = .ok (.aload_n 0, 1) := by decide +kernel
theorem dL_law_514 : decode cL_law 514 = .ok (.iload_n 3, 1) := by decide +kernel
theorem dL_law_515 : decode cL_law 515 = .ok (.iconst 1, 1) := by decide +kernel
theorem dL_law_516 : decode cL_law 516 = .ok (.iadd, 1) := by decide +kernel
theorem dL_law_517 : decode cL_law 517 = .ok (.iaload, 1) := by decide +kernel
theorem dL_law_518 : decode cL_law 518 = .ok (.aload_n 0, 1) := by decide +kernel
theorem dL_law_519 : decode cL_law 519 = .ok (.iload_n 3, 1) := by decide +kernel
theorem dL_law_520 : decode cL_law 520 = .ok (.iconst 2, 1) := by decide +kernel
theorem dL_law_521 : decode cL_law 521 = .ok (.iadd, 1) := by decide +kernel
theorem dL_law_522 : decode cL_law 522 = .ok (.iaload, 1) := by decide +kernel
theorem dL_law_523 : decode cL_law 523 = .ok (.invokevirtual 65, 3) := by decide +kernel
theorem dL_law_526 : decode cL_law 526 = .ok (.if_icmp .eq 640, 3) := by decide +kernel
theorem dL_law_529 : decode cL_law 529 = .ok (.iconst 0, 1) := by decide +kernel
theorem dL_law_530 : decode cL_law 530 = .ok (.ireturn, 1) := by decide +kernel
theorem dL_law_531 : decode cL_law 531 = .ok (.aload_n 1, 1) := by decide +kernel
theorem dL_law_532 : decode cL_law 532 = .ok (.aload_n 0, 1) := by decide +kernel
theorem dL_law_533 : decode cL_law 533 = .ok (.iload_n 3, 1) := by decide +kernel
theorem dL_law_534 : decode cL_law 534 = .ok (.iconst 1, 1) := by decide +kernel
theorem dL_law_535 : decode cL_law 535 = .ok (.iadd, 1) := by decide +kernel
theorem dL_law_536 : decode cL_law 536 = .ok (.iaload, 1) := by decide +kernel
theorem dL_law_537 : decode cL_law 537 = .ok (.aload_n 0, 1) := by decide +kernel
theorem dL_law_538 : decode cL_law 538 = .ok (.iload_n 3, 1) := by decide +kernel
theorem dL_law_539 : decode cL_law 539 = .ok (.iconst 2, 1) := by decide +kernel
theorem dL_law_540 : decode cL_law 540 = .ok (.iadd, 1) := by decide +kernel
theorem dL_law_541 : decode cL_law 541 = .ok (.iaload, 1) := by decide +kernel
theorem dL_law_542 : decode cL_law 542 = .ok (.invokevirtual 66, 3) := by decide +kernel
theorem dL_law_545 : decode cL_law 545 = .ok (.aload_n 2, 1) := by decide +kernel
theorem dL_law_546 : decode cL_law 546 = .ok (.aload_n 0, 1) := by decide +kernel
theorem dL_law_547 : decode cL_law 547 = .ok (.iload_n 3, 1) := by decide +kernel
theorem dL_law_548 : decode cL_law 548 = .ok (.iconst 1, 1) := by decide +kernel
theorem dL_law_549 : decode cL_law 549 = .ok (.iadd, 1) := by decide +kernel
theorem dL_law_550 : decode cL_law 550 = .ok (.iaload, 1) := by decide +kernel
theorem dL_law_551 : decode cL_law 551 = .ok (.aload_n 0, 1) := by decide +kernel
theorem dL_law_552 : decode cL_law 552 = .ok (.iload_n 3, 1) := by decide +kernel
theorem dL_law_553 : decode cL_law 553 = .ok (.iconst 2, 1) := by decide +kernel
theorem dL_law_554 : decode cL_law 554 = .ok (.iadd, 1) := by decide +kernel
theorem dL_law_555 : decode cL_law 555 = .ok (.iaload, 1) := by decide +kernel
theorem dL_law_556 : decode cL_law 556 = .ok (.invokevirtual 70, 3) := by decide +kernel
theorem dL_law_559 : decode cL_law 559 = .ok (.lcmp, 1) := by decide +kernel
theorem dL_law_560 : decode cL_law 560 = .ok (.ifCond .eq 606, 3) := by decide +kernel
theorem dL_law_563 : decode cL_law 563 = .ok (.iconst 0, 1) := by decide +kernel
theorem dL_law_564 : decode cL_law 564 = .ok (.ireturn, 1) := by decide +kernel
theorem dL_law_565 : decode cL_law 565 = .ok (.aload_n 1, 1) := by decide +kernel
theorem dL_law_566 : decode cL_law 566 = .ok (.aload_n 0, 1) := by decide +kernel
theorem dL_law_567 : decode cL_law 567 = .ok (.iload_n 3, 1) := by decide +kernel
theorem dL_law_568 : decode cL_law 568 = .ok (.iconst 1, 1) := by decide +kernel
theorem dL_law_569 : decode cL_law 569 = .ok (.iadd, 1) := by decide +kernel
theorem dL_law_570 : decode cL_law 570 = .ok (.iaload, 1) := by decide +kernel
theorem dL_law_571 : decode cL_law 571 = .ok (.aload_n 0, 1) := by decide +kernel
theorem dL_law_572 : decode cL_law 572 = .ok (.iload_n 3, 1) := by decide +kernel
theorem dL_law_573 : decode cL_law 573 = .ok (.iconst 2, 1) := by decide +kernel
theorem dL_law_574 : decode cL_law 574 = .ok (.iadd, 1) := by decide +kernel
theorem dL_law_575 : decode cL_law 575 = .ok (.iaload, 1) := by decide +kernel
theorem dL_law_576 : decode cL_law 576 = .ok (.invokevirtual 71, 3) := by decide +kernel
theorem dL_law_579 : decode cL_law 579 = .ok (.aload_n 2, 1) := by decide +kernel
theorem dL_law_580 : decode cL_law 580 = .ok (.aload_n 0, 1) := by decide +kernel
theorem dL_law_581 : decode cL_law 581 = .ok (.iload_n 3, 1) := by decide +kernel
theorem dL_law_582 : decode cL_law 582 = .ok (.iconst 1, 1) := by decide +kernel
theorem dL_law_583 : decode cL_law 583 = .ok (.iadd, 1) := by decide +kernel
theorem dL_law_584 : decode cL_law 584 = .ok (.iaload, 1) := by decide +kernel
theorem dL_law_585 : decode cL_law 585 = .ok (.aload_n 0, 1) := by decide +kernel
theorem dL_law_586 : decode cL_law 586 = .ok (.iload_n 3, 1) := by decide +kernel
theorem dL_law_587 : decode cL_law 587 = .ok (.iconst 2, 1) := by decide +kernel
theorem dL_law_588 : decode cL_law 588 = .ok (.iadd, 1) := by decide +kernel
theorem dL_law_589 : decode cL_law 589 = .ok (.iaload, 1) := by decide +kernel
theorem dL_law_590 : decode cL_law 590 = .ok (.invokevirtual 74, 3) := by decide +kernel
theorem dL_law_593 : decode cL_law 593 = .ok (.if_icmp .eq 573, 3) := by decide +kernel
theorem dL_law_596 : decode cL_law 596 = .ok (.iconst 0, 1) := by decide +kernel
theorem dL_law_597 : decode cL_law 597 = .ok (.ireturn, 1) := by decide +kernel
theorem dL_law_598 : decode cL_law 598 = .ok (.aload_n 1, 1) := by decide +kernel
theorem dL_law_599 : decode cL_law 599 = .ok (.aload_n 0, 1) := by decide +kernel
theorem dL_law_600 : decode cL_law 600 = .ok (.iload_n 3, 1) := by decide +kernel
theorem dL_law_601 : decode cL_law 601 = .ok (.iconst 1, 1) := by decide +kernel
theorem dL_law_602 : decode cL_law 602 = .ok (.iadd, 1) := by decide +kernel
theorem dL_law_603 : decode cL_law 603 = .ok (.iaload, 1) := by decide +kernel
theorem dL_law_604 : decode cL_law 604 = .ok (.aload_n 0, 1) := by decide +kernel
theorem dL_law_605 : decode cL_law 605 = .ok (.iload_n 3, 1) := by decide +kernel
theorem dL_law_606 : decode cL_law 606 = .ok (.iconst 2, 1) := by decide +kernel
theorem dL_law_607 : decode cL_law 607 = .ok (.iadd, 1) := by decide +kernel
theorem dL_law_608 : decode cL_law 608 = .ok (.iaload, 1) := by decide +kernel
theorem dL_law_609 : decode cL_law 609 = .ok (.aload_n 0, 1) := by decide +kernel
theorem dL_law_610 : decode cL_law 610 = .ok (.iload_n 3, 1) := by decide +kernel
theorem dL_law_611 : decode cL_law 611 = .ok (.iconst 3, 1) := by decide +kernel
theorem dL_law_612 : decode cL_law 612 = .ok (.iadd, 1) := by decide +kernel
theorem dL_law_613 : decode cL_law 613 = .ok (.iaload, 1) := by decide +kernel
theorem dL_law_614 : decode cL_law 614 = .ok (.invokevirtual 75, 3) := by decide +kernel
theorem dL_law_617 : decode cL_law 617 = .ok (.aload_n 2, 1) := by decide +kernel
theorem dL_law_618 : decode cL_law 618 = .ok (.aload_n 0, 1) := by decide +kernel
theorem dL_law_619 : decode cL_law 619 = .ok (.iload_n 3, 1) := by decide +kernel
theorem dL_law_620 : decode cL_law 620 = .ok (.iconst 1, 1) := by decide +kernel
theorem dL_law_621 : decode cL_law 621 = .ok (.iadd, 1) := by decide +kernel
theorem dL_law_622 : decode cL_law 622 = .ok (.iaload, 1) := by decide +kernel
theorem dL_law_623 : decode cL_law 623 = .ok (.aload_n 0, 1) := by decide +kernel
theorem dL_law_624 : decode cL_law 624 = .ok (.iload_n 3, 1) := by decide +kernel
theorem dL_law_625 : decode cL_law 625 = .ok (.iconst 2, 1) := by decide +kernel
theorem dL_law_626 : decode cL_law 626 = .ok (.iadd, 1) := by decide +kernel
theorem dL_law_627 : decode cL_law 627 = .ok (.iaload, 1) := by decide +kernel
theorem dL_law_628 : decode cL_law 628 = .ok (.aload_n 0, 1) := by decide +kernel
theorem dL_law_629 : decode cL_law 629 = .ok (.iload_n 3, 1) := by decide +kernel
theorem dL_law_630 : decode cL_law 630 = .ok (.iconst 3, 1) := by decide +kernel
theorem dL_law_631 : decode cL_law 631 = .ok (.iadd, 1) := by decide +kernel
theorem dL_law_632 : decode cL_law 632 = .ok (.iaload, 1) := by decide +kernel
theorem dL_law_633 : decode cL_law 633 = .ok (.invokevirtual 78, 3) := by decide +kernel
theorem dL_law_636 : decode cL_law 636 = .ok (.if_icmp .eq 530, 3) := by decide +kernel
theorem dL_law_639 : decode cL_law 639 = .ok (.iconst 0, 1) := by decide +kernel
theorem dL_law_640 : decode cL_law 640 = .ok (.ireturn, 1) := by decide +kernel
theorem dL_law_641 : decode cL_law 641 = .ok (.aload_n 1, 1) := by decide +kernel
theorem dL_law_642 : decode cL_law 642 = .ok (.aload_n 0, 1) := by decide +kernel
theorem dL_law_643 : decode cL_law 643 = .ok (.iload_n 3, 1) := by decide +kernel
theorem dL_law_644 : decode cL_law 644 = .ok (.iconst 1, 1) := by decide +kernel
theorem dL_law_645 : decode cL_law 645 = .ok (.iadd, 1) := by decide +kernel
theorem dL_law_646 : decode cL_law 646 = .ok (.iaload, 1) := by decide +kernel
theorem dL_law_647 : decode cL_law 647 = .ok (.invokevirtual 79, 3) := by decide +kernel
theorem dL_law_650 : decode cL_law 650 = .ok (.aload_n 2, 1) := by decide +kernel
theorem dL_law_651 : decode cL_law 651 = .ok (.aload_n 0, 1) := by decide +kernel
theorem dL_law_652 : decode cL_law 652 = .ok (.iload_n 3, 1) := by decide +kernel
theorem dL_law_653 : decode cL_law 653 = .ok (.iconst 1, 1) := by decide +kernel
theorem dL_law_654 : decode cL_law 654 = .ok (.iadd, 1) := by decide +kernel
theorem dL_law_655 : decode cL_law 655 = .ok (.iaload, 1) := by decide +kernel
theorem dL_law_656 : decode cL_law 656 = .ok (.invokevirtual 82, 3) := by decide +kernel
theorem dL_law_659 : decode cL_law 659 = .ok (.lcmp, 1) := by decide +kernel
theorem dL_law_660 : decode cL_law 660 = .ok (.ifCond .eq 506, 3) := by decide +kernel
theorem dL_law_663 : decode cL_law 663 = .ok (.iconst 0, 1) := by decide +kernel
theorem dL_law_664 : decode cL_law 664 = .ok (.ireturn, 1) := by decide +kernel
theorem dL_law_665 : decode cL_law 665 = .ok (.aload_n 1, 1) := by decide +kernel
theorem dL_law_666 : decode cL_law 666 = .ok (.aload_n 0, 1) := by decide +kernel
theorem dL_law_667 : decode cL_law 667 = .ok (.iload_n 3, 1) := by decide +kernel
theorem dL_law_668 : decode cL_law 668 = .ok (.iconst 1, 1) := by decide +kernel
theorem dL_law_669 : decode cL_law 669 = .ok (.iadd, 1) := by decide +kernel
theorem dL_law_670 : decode cL_law 670 = .ok (.iaload, 1) := by decide +kernel
theorem dL_law_671 : decode cL_law 671 = .ok (.aload_n 0, 1) := by decide +kernel
theorem dL_law_672 : decode cL_law 672 = .ok (.iload_n 3, 1) := by decide +kernel
theorem dL_law_673 : decode cL_law 673 = .ok (.iconst 2, 1) := by decide +kernel
theorem dL_law_674 : decode cL_law 674 = .ok (.iadd, 1) := by decide +kernel
theorem dL_law_675 : decode cL_law 675 = .ok (.iaload, 1) := by decide +kernel
theorem dL_law_676 : decode cL_law 676 = .ok (.aload_n 0, 1) := by decide +kernel
theorem dL_law_677 : decode cL_law 677 = .ok (.iload_n 3, 1) := by decide +kernel
theorem dL_law_678 : decode cL_law 678 = .ok (.iconst 3, 1) := by decide +kernel
theorem dL_law_679 : decode cL_law 679 = .ok (.iadd, 1) := by decide +kernel
theorem dL_law_680 : decode cL_law 680 = .ok (.iaload, 1) := by decide +kernel
theorem dL_law_681 : decode cL_law 681 = .ok (.invokevirtual 83, 3) := by decide +kernel
theorem dL_law_684 : decode cL_law 684 = .ok (.aload_n 2, 1) := by decide +kernel
theorem dL_law_685 : decode cL_law 685 = .ok (.aload_n 0, 1) := by decide +kernel
theorem dL_law_686 : decode cL_law 686 = .ok (.iload_n 3, 1) := by decide +kernel
theorem dL_law_687 : decode cL_law 687 = .ok (.iconst 1, 1) := by decide +kernel
theorem dL_law_688 : decode cL_law 688 = .ok (.iadd, 1) := by decide +kernel
theorem dL_law_689 : decode cL_law 689 = .ok (.iaload, 1) := by decide +kernel
theorem dL_law_690 : decode cL_law 690 = .ok (.aload_n 0, 1) := by decide +kernel
theorem dL_law_691 : decode cL_law 691 = .ok (.iload_n 3, 1) := by decide +kernel
theorem dL_law_692 : decode cL_law 692 = .ok (.iconst 2, 1) := by decide +kernel
theorem dL_law_693 : decode cL_law 693 = .ok (.iadd, 1) := by decide +kernel
theorem dL_law_694 : decode cL_law 694 = .ok (.iaload, 1) := by decide +kernel
theorem dL_law_695 : decode cL_law 695 = .ok (.aload_n 0, 1) := by decide +kernel
theorem dL_law_696 : decode cL_law 696 = .ok (.iload_n 3, 1) := by decide +kernel
theorem dL_law_697 : decode cL_law 697 = .ok (.iconst 3, 1) := by decide +kernel
theorem dL_law_698 : decode cL_law 698 = .ok (.iadd, 1) := by decide +kernel
theorem dL_law_699 : decode cL_law 699 = .ok (.iaload, 1) := by decide +kernel
theorem dL_law_700 : decode cL_law 700 = .ok (.invokevirtual 86, 3) := by decide +kernel
theorem dL_law_703 : decode cL_law 703 = .ok (.if_icmp .eq 463, 3) := by decide +kernel
theorem dL_law_706 : decode cL_law 706 = .ok (.iconst 0, 1) := by decide +kernel
theorem dL_law_707 : decode cL_law 707 = .ok (.ireturn, 1) := by decide +kernel
theorem dL_law_708 : decode cL_law 708 = .ok (.aload_n 1, 1) := by decide +kernel
theorem dL_law_709 : decode cL_law 709 = .ok (.aload_n 0, 1) := by decide +kernel
theorem dL_law_710 : decode cL_law 710 = .ok (.iload_n 3, 1) := by decide +kernel
theorem dL_law_711 : decode cL_law 711 = .ok (.iconst 1, 1) := by decide +kernel
theorem dL_law_712 : decode cL_law 712 = .ok (.iadd, 1) := by decide +kernel
theorem dL_law_713 : decode cL_law 713 = .ok (.iaload, 1) := by decide +kernel
theorem dL_law_714 : decode cL_law 714 = .ok (.aload_n 0, 1) := by decide +kernel
theorem dL_law_715 : decode cL_law 715 = .ok (.iload_n 3, 1) := by decide +kernel
theorem dL_law_716 : decode cL_law 716 = .ok (.iconst 2, 1) := by decide +kernel
theorem dL_law_717 : decode cL_law 717 = .ok (.iadd, 1) := by decide +kernel
theorem dL_law_718 : decode cL_law 718 = .ok (.iaload, 1) := by decide +kernel
theorem dL_law_719 : decode cL_law 719 = .ok (.invokevirtual 87, 3) := by decide +kernel
theorem dL_law_722 : decode cL_law 722 = .ok (.aload_n 2, 1) := by decide +kernel
theorem dL_law_723 : decode cL_law 723 = .ok (.aload_n 0, 1) := by decide +kernel
theorem dL_law_724 : decode cL_law 724 = .ok (.iload_n 3, 1) := by decide +kernel
theorem dL_law_725 : decode cL_law 725 = .ok (.iconst 1, 1) := by decide +kernel
theorem dL_law_726 : decode cL_law 726 = .ok (.iadd, 1) := by decide +kernel
theorem dL_law_727 : decode cL_law 727 = .ok (.iaload, 1) := by decide +kernel
theorem dL_law_728 : decode cL_law 728 = .ok (.aload_n 0, 1) := by decide +kernel
theorem dL_law_729 : decode cL_law 729 = .ok (.iload_n 3, 1) := by decide +kernel
theorem dL_law_730 : decode cL_law 730 = .ok (.iconst 2, 1) := by decide +kernel
theorem dL_law_731 : decode cL_law 731 = .ok (.iadd, 1) := by decide +kernel
theorem dL_law_732 : decode cL_law 732 = .ok (.iaload, 1) := by decide +kernel
theorem dL_law_733 : decode cL_law 733 = .ok (.invokevirtual 90, 3) := by decide +kernel
theorem dL_law_736 : decode cL_law 736 = .ok (.lcmp, 1) := by decide +kernel
theorem dL_law_737 : decode cL_law 737 = .ok (.ifCond .eq 429, 3) := by decide +kernel
theorem dL_law_740 : decode cL_law 740 = .ok (.iconst 0, 1) := by decide +kernel
theorem dL_law_741 : decode cL_law 741 = .ok (.ireturn, 1) := by decide +kernel
theorem dL_law_742 : decode cL_law 742 = .ok (.aload_n 1, 1) := by decide +kernel
theorem dL_law_743 : decode cL_law 743 = .ok (.aload_n 0, 1) := by decide +kernel
theorem dL_law_744 : decode cL_law 744 = .ok (.iload_n 3, 1) := by decide +kernel
theorem dL_law_745 : decode cL_law 745 = .ok (.iconst 1, 1) := by decide +kernel
theorem dL_law_746 : decode cL_law 746 = .ok (.iadd, 1) := by decide +kernel
theorem dL_law_747 : decode cL_law 747 = .ok (.iaload, 1) := by decide +kernel
theorem dL_law_748 : decode cL_law 748 = .ok (.aload_n 0, 1) := by decide +kernel
theorem dL_law_749 : decode cL_law 749 = .ok (.iload_n 3, 1) := by decide +kernel
theorem dL_law_750 : decode cL_law 750 = .ok (.iconst 2, 1) := by decide +kernel
theorem dL_law_751 : decode cL_law 751 = .ok (.iadd, 1) := by decide +kernel
theorem dL_law_752 : decode cL_law 752 = .ok (.iaload, 1) := by decide +kernel
theorem dL_law_753 : decode cL_law 753 = .ok (.aload_n 0, 1) := by decide +kernel
theorem dL_law_754 : decode cL_law 754 = .ok (.iload_n 3, 1) := by decide +kernel
theorem dL_law_755 : decode cL_law 755 = .ok (.iconst 3, 1) := by decide +kernel
theorem dL_law_756 : decode cL_law 756 = .ok (.iadd, 1) := by decide +kernel
theorem dL_law_757 : decode cL_law 757 = .ok (.iaload, 1) := by decide +kernel
theorem dL_law_758 : decode cL_law 758 = .ok (.invokevirtual 91, 3) := by decide +kernel
theorem dL_law_761 : decode cL_law 761 = .ok (.aload_n 2, 1) := by decide +kernel
theorem dL_law_762 : decode cL_law 762 = .ok (.aload_n 0, 1) := by decide +kernel
theorem dL_law_763 : decode cL_law 763 = .ok (.iload_n 3, 1) := by decide +kernel
theorem dL_law_764 : decode cL_law 764 = .ok (.iconst 1, 1) := by decide +kernel
theorem dL_law_765 : decode cL_law 765 = .ok (.iadd, 1) := by decide +kernel
theorem dL_law_766 : decode cL_law 766 = .ok (.iaload, 1) := by decide +kernel
theorem dL_law_767 : decode cL_law 767 = .ok (.aload_n 0, 1) := by decide +kernel
theorem dL_law_768 : decode cL_law 768 = .ok (.iload_n 3, 1) := by decide +kernel
theorem dL_law_769 : decode cL_law 769 = .ok (.iconst 2, 1) := by decide +kernel
theorem dL_law_770 : decode cL_law 770 = .ok (.iadd, 1) := by decide +kernel
theorem dL_law_771 : decode cL_law 771 = .ok (.iaload, 1) := by decide +kernel
theorem dL_law_772 : decode cL_law 772 = .ok (.aload_n 0, 1) := by decide +kernel
theorem dL_law_773 : decode cL_law 773 = .ok (.iload_n 3, 1) := by decide +kernel
theorem dL_law_774 : decode cL_law 774 = .ok (.iconst 3, 1) := by decide +kernel
theorem dL_law_775 : decode cL_law 775 = .ok (.iadd, 1) := by decide +kernel
theorem dL_law_776 : decode cL_law 776 = .ok (.iaload, 1) := by decide +kernel
theorem dL_law_777 : decode cL_law 777 = .ok (.invokevirtual 94, 3) := by decide +kernel
theorem dL_law_780 : decode cL_law 780 = .ok (.if_icmp .eq 386, 3) := by decide +kernel
theorem dL_law_783 : decode cL_law 783 = .ok (.iconst 0, 1) := by decide +kernel
theorem dL_law_784 : decode cL_law 784 = .ok (.ireturn, 1) := by decide +kernel
theorem dL_law_785 : decode cL_law 785 = .ok (.aload_n 1, 1) := by decide +kernel
theorem dL_law_786 : decode cL_law 786 = .ok (.aload_n 0, 1) := by decide +kernel
theorem dL_law_787 : decode cL_law 787 = .ok (.iload_n 3, 1) := by decide +kernel
theorem dL_law_788 : decode cL_law 788 = .ok (.iconst 1, 1) := by decide +kernel
theorem dL_law_789 : decode cL_law 789 = .ok (.iadd, 1) := by decide +kernel
theorem dL_law_790 : decode cL_law 790 = .ok (.iaload, 1) := by decide +kernel
theorem dL_law_791 : decode cL_law 791 = .ok (.aload_n 0, 1) := by decide +kernel
theorem dL_law_792 : decode cL_law 792 = .ok (.iload_n 3, 1) := by decide +kernel
theorem dL_law_793 : decode cL_law 793 = .ok (.iconst 2, 1) := by decide +kernel
theorem dL_law_794 : decode cL_law 794 = .ok (.iadd, 1) := by decide +kernel
theorem dL_law_795 : decode cL_law 795 = .ok (.iaload, 1) := by decide +kernel
theorem dL_law_796 : decode cL_law 796 = .ok (.aload_n 0, 1) := by decide +kernel
theorem dL_law_797 : decode cL_law 797 = .ok (.iload_n 3, 1) := by decide +kernel
theorem dL_law_798 : decode cL_law 798 = .ok (.iconst 3, 1) := by decide +kernel
theorem dL_law_799 : decode cL_law 799 = .ok (.iadd, 1) := by decide +kernel
theorem dL_law_800 : decode cL_law 800 = .ok (.iaload, 1) := by decide +kernel
theorem dL_law_801 : decode cL_law 801 = .ok (.invokevirtual 95, 3) := by decide +kernel
theorem dL_law_804 : decode cL_law 804 = .ok (.aload_n 2, 1) := by decide +kernel
theorem dL_law_805 : decode cL_law 805 = .ok (.aload_n 0, 1) := by decide +kernel
theorem dL_law_806 : decode cL_law 806 = .ok (.iload_n 3, 1) := by decide +kernel
theorem dL_law_807 : decode cL_law 807 = .ok (.iconst 1, 1) := by decide +kernel
theorem dL_law_808 : decode cL_law 808 = .ok (.iadd, 1) := by decide +kernel
theorem dL_law_809 : decode cL_law 809 = .ok (.iaload, 1) := by decide +kernel
theorem dL_law_810 : decode cL_law 810 = .ok (.aload_n 0, 1) := by decide +kernel
theorem dL_law_811 : decode cL_law 811 = .ok (.iload_n 3, 1) := by decide +kernel
theorem dL_law_812 : decode cL_law 812 = .ok (.iconst 2, 1) := by decide +kernel
theorem dL_law_813 : decode cL_law 813 = .ok (.iadd, 1) := by decide +kernel
theorem dL_law_814 : decode cL_law 814 = .ok (.iaload, 1) := by decide +kernel
theorem dL_law_815 : decode cL_law 815 = .ok (.aload_n 0, 1) := by decide +kernel
theorem dL_law_816 : decode cL_law 816 = .ok (.iload_n 3, 1) := by decide +kernel
theorem dL_law_817 : decode cL_law 817 = .ok (.iconst 3, 1) := by decide +kernel
theorem dL_law_818 : decode cL_law 818 = .ok (.iadd, 1) := by decide +kernel
theorem dL_law_819 : decode cL_law 819 = .ok (.iaload, 1) := by decide +kernel
theorem dL_law_820 : decode cL_law 820 = .ok (.invokevirtual 98, 3) := by decide +kernel
theorem dL_law_823 : decode cL_law 823 = .ok (.if_icmp .eq 343, 3) := by decide +kernel
theorem dL_law_826 : decode cL_law 826 = .ok (.iconst 0, 1) := by decide +kernel
theorem dL_law_827 : decode cL_law 827 = .ok (.ireturn, 1) := by decide +kernel
theorem dL_law_828 : decode cL_law 828 = .ok (.aload_n 1, 1) := by decide +kernel
theorem dL_law_829 : decode cL_law 829 = .ok (.aload_n 0, 1) := by decide +kernel
theorem dL_law_830 : decode cL_law 830 = .ok (.iload_n 3, 1) := by decide +kernel
theorem dL_law_831 : decode cL_law 831 = .ok (.iconst 1, 1) := by decide +kernel
theorem dL_law_832 : decode cL_law 832 = .ok (.iadd, 1) := by decide +kernel
theorem dL_law_833 : decode cL_law 833 = .ok (.iaload, 1) := by decide +kernel
theorem dL_law_834 : decode cL_law 834 = .ok (.aload_n 0, 1) := by decide +kernel
theorem dL_law_835 : decode cL_law 835 = .ok (.iload_n 3, 1) := by decide +kernel
theorem dL_law_836 : decode cL_law 836 = .ok (.iconst 2, 1) := by decide +kernel
theorem dL_law_837 : decode cL_law 837 = .ok (.iadd, 1) := by decide +kernel
theorem dL_law_838 : decode cL_law 838 = .ok (.iaload, 1) := by decide +kernel
theorem dL_law_839 : decode cL_law 839 = .ok (.aload_n 0, 1) := by decide +kernel
theorem dL_law_840 : decode cL_law 840 = .ok (.iload_n 3, 1) := by decide +kernel
theorem dL_law_841 : decode cL_law 841 = .ok (.iconst 3, 1) := by decide +kernel
theorem dL_law_842 : decode cL_law 842 = .ok (.iadd, 1) := by decide +kernel
theorem dL_law_843 : decode cL_law 843 = .ok (.iaload, 1) := by decide +kernel
theorem dL_law_844 : decode cL_law 844 = .ok (.aload_n 0, 1) := by decide +kernel
theorem dL_law_845 : decode cL_law 845 = .ok (.iload_n 3, 1) := by decide +kernel
theorem dL_law_846 : decode cL_law 846 = .ok (.iconst 4, 1) := by decide +kernel
theorem dL_law_847 : decode cL_law 847 = .ok (.iadd, 1) := by decide +kernel
theorem dL_law_848 : decode cL_law 848 = .ok (.iaload, 1) := by decide +kernel
theorem dL_law_849 : decode cL_law 849 = .ok (.invokevirtual 99, 3) := by decide +kernel
theorem dL_law_852 : decode cL_law 852 = .ok (.aload_n 2, 1) := by decide +kernel
theorem dL_law_853 : decode cL_law 853 = .ok (.aload_n 0, 1) := by decide +kernel
theorem dL_law_854 : decode cL_law 854 = .ok (.iload_n 3, 1) := by decide +kernel
theorem dL_law_855 : decode cL_law 855 = .ok (.iconst 1, 1) := by decide +kernel
theorem dL_law_856 : decode cL_law 856 = .ok (.iadd, 1) := by decide +kernel
theorem dL_law_857 : decode cL_law 857 = .ok (.iaload, 1) := by decide +kernel
theorem dL_law_858 : decode cL_law 858 = .ok (.aload_n 0, 1) := by decide +kernel
theorem dL_law_859 : decode cL_law 859 = .ok (.iload_n 3, 1) := by decide +kernel
theorem dL_law_860 : decode cL_law 860 = .ok (.iconst 2, 1) := by decide +kernel
theorem dL_law_861 : decode cL_law 861 = .ok (.iadd, 1) := by decide +kernel
theorem dL_law_862 : decode cL_law 862 = .ok (.iaload, 1) := by decide +kernel
theorem dL_law_863 : decode cL_law 863 = .ok (.aload_n 0, 1) := by decide +kernel
theorem dL_law_864 : decode cL_law 864 = .ok (.iload_n 3, 1) := by decide +kernel
theorem dL_law_865 : decode cL_law 865 = .ok (.iconst 3, 1) := by decide +kernel
theorem dL_law_866 : decode cL_law 866 = .ok (.iadd, 1) := by decide +kernel
theorem dL_law_867 : decode cL_law 867 = .ok (.iaload, 1) := by decide +kernel
theorem dL_law_868 : decode cL_law 868 = .ok (.aload_n 0, 1) := by decide +kernel
theorem dL_law_869 : decode cL_law 869 = .ok (.iload_n 3, 1) := by decide +kernel
theorem dL_law_870 : decode cL_law 870 = .ok (.iconst 4, 1) := by decide +kernel
theorem dL_law_871 : decode cL_law 871 = .ok (.iadd, 1) := by decide +kernel
theorem dL_law_872 : decode cL_law 872 = .ok (.iaload, 1) := by decide +kernel
theorem dL_law_873 : decode cL_law 873 = .ok (.invokevirtual 103, 3) := by decide +kernel
theorem dL_law_876 : decode cL_law 876 = .ok (.lcmp, 1) := by decide +kernel
theorem dL_law_877 : decode cL_law 877 = .ok (.ifCond .eq 289, 3) := by decide +kernel
theorem dL_law_880 : decode cL_law 880 = .ok (.iconst 0, 1) := by decide +kernel
theorem dL_law_881 : decode cL_law 881 = .ok (.ireturn, 1) := by decide +kernel
theorem dL_law_882 : decode cL_law 882 = .ok (.aload_n 1, 1) := by decide +kernel
theorem dL_law_883 : decode cL_law 883 = .ok (.invokevirtual 104, 3) := by decide +kernel
theorem dL_law_886 : decode cL_law 886 = .ok (.aload_n 2, 1) := by decide +kernel
theorem dL_law_887 : decode cL_law 887 = .ok (.invokevirtual 107, 3) := by decide +kernel
theorem dL_law_890 : decode cL_law 890 = .ok (.if_icmp .eq 276, 3) := by decide +kernel
theorem dL_law_893 : decode cL_law 893 = .ok (.iconst 0, 1) := by decide +kernel
theorem dL_law_894 : decode cL_law 894 = .ok (.ireturn, 1) := by decide +kernel
theorem dL_law_895 : decode cL_law 895 = .ok (.aload_n 1, 1) := by decide +kernel
theorem dL_law_896 : decode cL_law 896 = .ok (.invokevirtual 108, 3) := by decide +kernel
theorem dL_law_899 : decode cL_law 899 = .ok (.aload_n 2, 1) := by decide +kernel
theorem dL_law_900 : decode cL_law 900 = .ok (.invokevirtual 111, 3) := by decide +kernel
theorem dL_law_903 : decode cL_law 903 = .ok (.if_icmp .eq 263, 3) := by decide +kernel
theorem dL_law_906 : decode cL_law 906 = .ok (.iconst 0, 1) := by decide +kernel
theorem dL_law_907 : decode cL_law 907 = .ok (.ireturn, 1) := by decide +kernel
theorem dL_law_908 : decode cL_law 908 = .ok (.aload_n 1, 1) := by decide +kernel
theorem dL_law_909 : decode cL_law 909 = .ok (.aload_n 0, 1) := by decide +kernel
theorem dL_law_910 : decode cL_law 910 = .ok (.iload_n 3, 1) := by decide +kernel
theorem dL_law_911 : decode cL_law 911 = .ok (.iconst 1, 1) := by decide +kernel
theorem dL_law_912 : decode cL_law 912 = .ok (.iadd, 1) := by decide +kernel
theorem dL_law_913 : decode cL_law 913 = .ok (.iaload, 1) := by decide +kernel
theorem dL_law_914 : decode cL_law 914 = .ok (.invokevirtual 112, 3) := by decide +kernel
theorem dL_law_917 : decode cL_law 917 = .ok (.aload_n 2, 1) := by decide +kernel
theorem dL_law_918 : decode cL_law 918 = .ok (.aload_n 0, 1) := by decide +kernel
theorem dL_law_919 : decode cL_law 919 = .ok (.iload_n 3, 1) := by decide +kernel
theorem dL_law_920 : decode cL_law 920 = .ok (.iconst 1, 1) := by decide +kernel
theorem dL_law_921 : decode cL_law 921 = .ok (.iadd, 1) := by decide +kernel
theorem dL_law_922 : decode cL_law 922 = .ok (.iaload, 1) := by decide +kernel
theorem dL_law_923 : decode cL_law 923 = .ok (.invokevirtual 115, 3) := by decide +kernel
theorem dL_law_926 : decode cL_law 926 = .ok (.if_icmp .eq 240, 3) := by decide +kernel
theorem dL_law_929 : decode cL_law 929 = .ok (.iconst 0, 1) := by decide +kernel
theorem dL_law_930 : decode cL_law 930 = .ok (.ireturn, 1) := by decide +kernel
theorem dL_law_931 : decode cL_law 931 = .ok (.aload_n 1, 1) := by decide +kernel
theorem dL_law_932 : decode cL_law 932 = .ok (.aload_n 0, 1) := by decide +kernel
theorem dL_law_933 : decode cL_law 933 = .ok (.iload_n 3, 1) := by decide +kernel
theorem dL_law_934 : decode cL_law 934 = .ok (.iconst 1, 1) := by decide +kernel
theorem dL_law_935 : decode cL_law 935 = .ok (.iadd, 1) := by decide +kernel
theorem dL_law_936 : decode cL_law 936 = .ok (.iaload, 1) := by decide +kernel
theorem dL_law_937 : decode cL_law 937 = .ok (.aload_n 0, 1) := by decide +kernel
theorem dL_law_938 : decode cL_law 938 = .ok (.iload_n 3, 1) := by decide +kernel
theorem dL_law_939 : decode cL_law 939 = .ok (.iconst 2, 1) := by decide +kernel
theorem dL_law_940 : decode cL_law 940 = .ok (.iadd, 1) := by decide +kernel
theorem dL_law_941 : decode cL_law 941 = .ok (.iaload, 1) := by decide +kernel
theorem dL_law_942 : decode cL_law 942 = .ok (.aload_n 0, 1) := by decide +kernel
theorem dL_law_943 : decode cL_law 943 = .ok (.iload_n 3, 1) := by decide +kernel
theorem dL_law_944 : decode cL_law 944 = .ok (.iconst 3, 1) := by decide +kernel
theorem dL_law_945 : decode cL_law 945 = .ok (.iadd, 1) := by decide +kernel
theorem dL_law_946 : decode cL_law 946 = .ok (.iaload, 1) := by decide +kernel
theorem dL_law_947 : decode cL_law 947 = .ok (.invokevirtual 116, 3) := by decide +kernel
theorem dL_law_950 : decode cL_law 950 = .ok (.aload_n 2, 1) := by decide +kernel
theorem dL_law_951 : decode cL_law 951 = .ok (.aload_n 0, 1) := by decide +kernel
theorem dL_law_952 : decode cL_law 952 = .ok (.iload_n 3, 1) := by decide +kernel
theorem dL_law_953 : decode cL_law 953 = .ok (.iconst 1, 1) := by decide +kernel
theorem dL_law_954 : decode cL_law 954 = .ok (.iadd, 1) := by decide +kernel
theorem dL_law_955 : decode cL_law 955 = .ok (.iaload, 1) := by decide +kernel
theorem dL_law_956 : decode cL_law 956 = .ok (.aload_n 0, 1) := by decide +kernel
theorem dL_law_957 : decode cL_law 957 = .ok (.iload_n 3, 1) := by decide +kernel
theorem dL_law_958 : decode cL_law 958 = .ok (.iconst 2, 1) := by decide +kernel
theorem dL_law_959 : decode cL_law 959 = .ok (.iadd, 1) := by decide +kernel
theorem dL_law_960 : decode cL_law 960 = .ok (.iaload, 1) := by decide +kernel
theorem dL_law_961 : decode cL_law 961 = .ok (.aload_n 0, 1) := by decide +kernel
theorem dL_law_962 : decode cL_law 962 = .ok (.iload_n 3, 1) := by decide +kernel
theorem dL_law_963 : decode cL_law 963 = .ok (.iconst 3, 1) := by decide +kernel
theorem dL_law_964 : decode cL_law 964 = .ok (.iadd, 1) := by decide +kernel
theorem dL_law_965 : decode cL_law 965 = .ok (.iaload, 1) := by decide +kernel
theorem dL_law_966 : decode cL_law 966 = .ok (.invokevirtual 119, 3) := by decide +kernel
theorem dL_law_969 : decode cL_law 969 = .ok (.if_icmp .eq 197, 3) := by decide +kernel
theorem dL_law_972 : decode cL_law 972 = .ok (.iconst 0, 1) := by decide +kernel
theorem dL_law_973 : decode cL_law 973 = .ok (.ireturn, 1) := by decide +kernel
theorem dL_law_974 : decode cL_law 974 = .ok (.aload_n 1, 1) := by decide +kernel
theorem dL_law_975 : decode cL_law 975 = .ok (.aload_n 0, 1) := by decide +kernel
theorem dL_law_976 : decode cL_law 976 = .ok (.iload_n 3, 1) := by decide +kernel
theorem dL_law_977 : decode cL_law 977 = .ok (.iconst 1, 1) := by decide +kernel
theorem dL_law_978 : decode cL_law 978 = .ok (.iadd, 1) := by decide +kernel
theorem dL_law_979 : decode cL_law 979 = .ok (.iaload, 1) := by decide +kernel
theorem dL_law_980 : decode cL_law 980 = .ok (.aload_n 0, 1) := by decide +kernel
theorem dL_law_981 : decode cL_law 981 = .ok (.iload_n 3, 1) := by decide +kernel
theorem dL_law_982 : decode cL_law 982 = .ok (.iconst 2, 1) := by decide +kernel
theorem dL_law_983 : decode cL_law 983 = .ok (.iadd, 1) := by decide +kernel
theorem dL_law_984 : decode cL_law 984 = .ok (.iaload, 1) := by decide +kernel
theorem dL_law_985 : decode cL_law 985 = .ok (.aload_n 0, 1) := by decide +kernel
theorem dL_law_986 : decode cL_law 986 = .ok (.iload_n 3, 1) := by decide +kernel
theorem dL_law_987 : decode cL_law 987 = .ok (.iconst 3, 1) := by decide +kernel
theorem dL_law_988 : decode cL_law 988 = .ok (.iadd, 1) := by decide +kernel
theorem dL_law_989 : decode cL_law 989 = .ok (.iaload, 1) := by decide +kernel
theorem dL_law_990 : decode cL_law 990 = .ok (.invokevirtual 120, 3) := by decide +kernel
theorem dL_law_993 : decode cL_law 993 = .ok (.aload_n 2, 1) := by decide +kernel
theorem dL_law_994 : decode cL_law 994 = .ok (.aload_n 0, 1) := by decide +kernel
theorem dL_law_995 : decode cL_law 995 = .ok (.iload_n 3, 1) := by decide +kernel
theorem dL_law_996 : decode cL_law 996 = .ok (.iconst 1, 1) := by decide +kernel
theorem dL_law_997 : decode cL_law 997 = .ok (.iadd, 1) := by decide +kernel
theorem dL_law_998 : decode cL_law 998 = .ok (.iaload, 1) := by decide +kernel
theorem dL_law_999 : decode cL_law 999 = .ok (.aload_n 0, 1) := by decide +kernel
theorem dL_law_1000 : decode cL_law 1000 = .ok (.iload_n 3, 1) := by decide +kernel
theorem dL_law_1001 : decode cL_law 1001 = .ok (.iconst 2, 1) := by decide +kernel
theorem dL_law_1002 : decode cL_law 1002 = .ok (.iadd, 1) := by decide +kernel
theorem dL_law_1003 : decode cL_law 1003 = .ok (.iaload, 1) := by decide +kernel
theorem dL_law_1004 : decode cL_law 1004 = .ok (.aload_n 0, 1) := by decide +kernel
theorem dL_law_1005 : decode cL_law 1005 = .ok (.iload_n 3, 1) := by decide +kernel
theorem dL_law_1006 : decode cL_law 1006 = .ok (.iconst 3, 1) := by decide +kernel
theorem dL_law_1007 : decode cL_law 1007 = .ok (.iadd, 1) := by decide +kernel
theorem dL_law_1008 : decode cL_law 1008 = .ok (.iaload, 1) := by decide +kernel
theorem dL_law_1009 : decode cL_law 1009 = .ok (.invokevirtual 123, 3) := by decide +kernel
theorem dL_law_1012 : decode cL_law 1012 = .ok (.if_icmp .eq 154, 3) := by decide +kernel
theorem dL_law_1015 : decode cL_law 1015 = .ok (.iconst 0, 1) := by decide +kernel
theorem dL_law_1016 : decode cL_law 1016 = .ok (.ireturn, 1) := by decide +kernel
theorem dL_law_1017 : decode cL_law 1017 = .ok (.aload_n 1, 1) := by decide +kernel
theorem dL_law_1018 : decode cL_law 1018 = .ok (.aload_n 0, 1) := by decide +kernel
theorem dL_law_1019 : decode cL_law 1019 = .ok (.iload_n 3, 1) := by decide +kernel
theorem dL_law_1020 : decode cL_law 1020 = .ok (.iconst 1, 1) := by decide +kernel
theorem dL_law_1021 : decode cL_law 1021 = .ok (.iadd, 1) := by decide +kernel
theorem dL_law_1022 : decode cL_law 1022 = .ok (.iaload, 1) := by decide +kernel
theorem dL_law_1023 : decode cL_law 1023 = .ok (.aload_n 0, 1) := by decide +kernel
theorem dL_law_1024 : decode cL_law 1024 = .ok (.iload_n 3, 1) := by decide +kernel
theorem dL_law_1025 : decode cL_law 1025 = .ok (.iconst 2, 1) := by decide +kernel
theorem dL_law_1026 : decode cL_law 1026 = .ok (.iadd, 1) := by decide +kernel
theorem dL_law_1027 : decode cL_law 1027 = .ok (.iaload, 1) := by decide +kernel
theorem dL_law_1028 : decode cL_law 1028 = .ok (.aload_n 0, 1) := by decide +kernel
theorem dL_law_1029 : decode cL_law 1029 = .ok (.iload_n 3, 1) := by decide +kernel
theorem dL_law_1030 : decode cL_law 1030 = .ok (.iconst 3, 1) := by decide +kernel
theorem dL_law_1031 : decode cL_law 1031 = .ok (.iadd, 1) := by decide +kernel
theorem dL_law_1032 : decode cL_law 1032 = .ok (.iaload, 1) := by decide +kernel
theorem dL_law_1033 : decode cL_law 1033 = .ok (.aload_n 0, 1) := by decide +kernel
theorem dL_law_1034 : decode cL_law 1034 = .ok (.iload_n 3, 1) := by decide +kernel
theorem dL_law_1035 : decode cL_law 1035 = .ok (.iconst 4, 1) := by decide +kernel
theorem dL_law_1036 : decode cL_law 1036 = .ok (.iadd, 1) := by decide +kernel
theorem dL_law_1037 : decode cL_law 1037 = .ok (.iaload, 1) := by decide +kernel
theorem dL_law_1038 : decode cL_law 1038 = .ok (.aload_n 0, 1) := by decide +kernel
theorem dL_law_1039 : decode cL_law 1039 = .ok (.iload_n 3, 1) := by decide +kernel
theorem dL_law_1040 : decode cL_law 1040 = .ok (.iconst 5, 1) := by decide +kernel
theorem dL_law_1041 : decode cL_law 1041 = .ok (.iadd, 1) := by decide +kernel
theorem dL_law_1042 : decode cL_law 1042 = .ok (.iaload, 1) := by decide +kernel
theorem dL_law_1043 : decode cL_law 1043 = .ok (.invokevirtual 124, 3) := by decide +kernel
theorem dL_law_1046 : decode cL_law 1046 = .ok (.aload_n 2, 1) := by decide +kernel
theorem dL_law_1047 : decode cL_law 1047 = .ok (.aload_n 0, 1) := by decide +kernel
theorem dL_law_1048 : decode cL_law 1048 = .ok (.iload_n 3, 1) := by decide +kernel
theorem dL_law_1049 : decode cL_law 1049 = .ok (.iconst 1, 1) := by decide +kernel
theorem dL_law_1050 : decode cL_law 1050 = .ok (.iadd, 1) := by decide +kernel
theorem dL_law_1051 : decode cL_law 1051 = .ok (.iaload, 1) := by decide +kernel
theorem dL_law_1052 : decode cL_law 1052 = .ok (.aload_n 0, 1) := by decide +kernel
theorem dL_law_1053 : decode cL_law 1053 = .ok (.iload_n 3, 1) := by decide +kernel
theorem dL_law_1054 : decode cL_law 1054 = .ok (.iconst 2, 1) := by decide +kernel
theorem dL_law_1055 : decode cL_law 1055 = .ok (.iadd, 1) := by decide +kernel
theorem dL_law_1056 : decode cL_law 1056 = .ok (.iaload, 1) := by decide +kernel
theorem dL_law_1057 : decode cL_law 1057 = .ok (.aload_n 0, 1) := by decide +kernel
theorem dL_law_1058 : decode cL_law 1058 = .ok (.iload_n 3, 1) := by decide +kernel
theorem dL_law_1059 : decode cL_law 1059 = .ok (.iconst 3, 1) := by decide +kernel
theorem dL_law_1060 : decode cL_law 1060 = .ok (.iadd, 1) := by decide +kernel
theorem dL_law_1061 : decode cL_law 1061 = .ok (.iaload, 1) := by decide +kernel
theorem dL_law_1062 : decode cL_law 1062 = .ok (.aload_n 0, 1) := by decide +kernel
theorem dL_law_1063 : decode cL_law 1063 = .ok (.iload_n 3, 1) := by decide +kernel
theorem dL_law_1064 : decode cL_law 1064 = .ok (.iconst 4, 1) := by decide +kernel
theorem dL_law_1065 : decode cL_law 1065 = .ok (.iadd, 1) := by decide +kernel
theorem dL_law_1066 : decode cL_law 1066 = .ok (.iaload, 1) := by decide +kernel
theorem dL_law_1067 : decode cL_law 1067 = .ok (.aload_n 0, 1) := by decide +kernel
theorem dL_law_1068 : decode cL_law 1068 = .ok (.iload_n 3, 1) := by decide +kernel
theorem dL_law_1069 : decode cL_law 1069 = .ok (.iconst 5, 1) := by decide +kernel
theorem dL_law_1070 : decode cL_law 1070 = .ok (.iadd, 1) := by decide +kernel
theorem dL_law_1071 : decode cL_law 1071 = .ok (.iaload, 1) := by decide +kernel
theorem dL_law_1072 : decode cL_law 1072 = .ok (.invokevirtual 128, 3) := by decide +kernel
theorem dL_law_1075 : decode cL_law 1075 = .ok (.if_icmp .eq 91, 3) := by decide +kernel
theorem dL_law_1078 : decode cL_law 1078 = .ok (.iconst 0, 1) := by decide +kernel
theorem dL_law_1079 : decode cL_law 1079 = .ok (.ireturn, 1) := by decide +kernel
theorem dL_law_1080 : decode cL_law 1080 = .ok (.aload_n 1, 1) := by decide +kernel
theorem dL_law_1081 : decode cL_law 1081 = .ok (.aload_n 0, 1) := by decide +kernel
theorem dL_law_1082 : decode cL_law 1082 = .ok (.iload_n 3, 1) := by decide +kernel
theorem dL_law_1083 : decode cL_law 1083 = .ok (.iconst 1, 1) := by decide +kernel
theorem dL_law_1084 : decode cL_law 1084 = .ok (.iadd, 1) := by decide +kernel
theorem dL_law_1085 : decode cL_law 1085 = .ok (.iaload, 1) := by decide +kernel
theorem dL_law_1086 : decode cL_law 1086 = .ok (.aload_n 0, 1) := by decide +kernel
theorem dL_law_1087 : decode cL_law 1087 = .ok (.iload_n 3, 1) := by decide +kernel
theorem dL_law_1088 : decode cL_law 1088 = .ok (.iconst 2, 1) := by decide +kernel
theorem dL_law_1089 : decode cL_law 1089 = .ok (.iadd, 1) := by decide +kernel
theorem dL_law_1090 : decode cL_law 1090 = .ok (.iaload, 1) := by decide +kernel
theorem dL_law_1091 : decode cL_law 1091 = .ok (.aload_n 0, 1) := by decide +kernel
theorem dL_law_1092 : decode cL_law 1092 = .ok (.iload_n 3, 1) := by decide +kernel
theorem dL_law_1093 : decode cL_law 1093 = .ok (.iconst 3, 1) := by decide +kernel
theorem dL_law_1094 : decode cL_law 1094 = .ok (.iadd, 1) := by decide +kernel
theorem dL_law_1095 : decode cL_law 1095 = .ok (.iaload, 1) := by decide +kernel
theorem dL_law_1096 : decode cL_law 1096 = .ok (.aload_n 0, 1) := by decide +kernel
theorem dL_law_1097 : decode cL_law 1097 = .ok (.iload_n 3, 1) := by decide +kernel
theorem dL_law_1098 : decode cL_law 1098 = .ok (.iconst 4, 1) := by decide +kernel
theorem dL_law_1099 : decode cL_law 1099 = .ok (.iadd, 1) := by decide +kernel
theorem dL_law_1100 : decode cL_law 1100 = .ok (.iaload, 1) := by decide +kernel
theorem dL_law_1101 : decode cL_law 1101 = .ok (.invokevirtual 129, 3) := by decide +kernel
theorem dL_law_1104 : decode cL_law 1104 = .ok (.aload_n 2, 1) := by decide +kernel
theorem dL_law_1105 : decode cL_law 1105 = .ok (.aload_n 0, 1) := by decide +kernel
theorem dL_law_1106 : decode cL_law 1106 = .ok (.iload_n 3, 1) := by decide +kernel
theorem dL_law_1107 : decode cL_law 1107 = .ok (.iconst 1, 1) := by decide +kernel
theorem dL_law_1108 : decode cL_law 1108 = .ok (.iadd, 1) := by decide +kernel
theorem dL_law_1109 : decode cL_law 1109 = .ok (.iaload, 1) := by decide +kernel
theorem dL_law_1110 : decode cL_law 1110 = .ok (.aload_n 0, 1) := by decide +kernel
theorem dL_law_1111 : decode cL_law 1111 = .ok (.iload_n 3, 1) := by decide +kernel
theorem dL_law_1112 : decode cL_law 1112 = .ok (.iconst 2, 1) := by decide +kernel
theorem dL_law_1113 : decode cL_law 1113 = .ok (.iadd, 1) := by decide +kernel
theorem dL_law_1114 : decode cL_law 1114 = .ok (.iaload, 1) := by decide +kernel
theorem dL_law_1115 : decode cL_law 1115 = .ok (.aload_n 0, 1) := by decide +kernel
theorem dL_law_1116 : decode cL_law 1116 = .ok (.iload_n 3, 1) := by decide +kernel
theorem dL_law_1117 : decode cL_law 1117 = .ok (.iconst 3, 1) := by decide +kernel
theorem dL_law_1118 : decode cL_law 1118 = .ok (.iadd, 1) := by decide +kernel
theorem dL_law_1119 : decode cL_law 1119 = .ok (.iaload, 1) := by decide +kernel
theorem dL_law_1120 : decode cL_law 1120 = .ok (.aload_n 0, 1) := by decide +kernel
theorem dL_law_1121 : decode cL_law 1121 = .ok (.iload_n 3, 1) := by decide +kernel
theorem dL_law_1122 : decode cL_law 1122 = .ok (.iconst 4, 1) := by decide +kernel
theorem dL_law_1123 : decode cL_law 1123 = .ok (.iadd, 1) := by decide +kernel
theorem dL_law_1124 : decode cL_law 1124 = .ok (.iaload, 1) := by decide +kernel
theorem dL_law_1125 : decode cL_law 1125 = .ok (.invokevirtual 133, 3) := by decide +kernel
theorem dL_law_1128 : decode cL_law 1128 = .ok (.if_icmp .eq 38, 3) := by decide +kernel
theorem dL_law_1131 : decode cL_law 1131 = .ok (.iconst 0, 1) := by decide +kernel
theorem dL_law_1132 : decode cL_law 1132 = .ok (.ireturn, 1) := by decide +kernel
theorem dL_law_1133 : decode cL_law 1133 = .ok (.aload_n 1, 1) := by decide +kernel
theorem dL_law_1134 : decode cL_law 1134 = .ok (.aload_n 0, 1) := by decide +kernel
theorem dL_law_1135 : decode cL_law 1135 = .ok (.iload_n 3, 1) := by decide +kernel
theorem dL_law_1136 : decode cL_law 1136 = .ok (.iconst 1, 1) := by decide +kernel
theorem dL_law_1137 : decode cL_law 1137 = .ok (.iadd, 1) := by decide +kernel
theorem dL_law_1138 : decode cL_law 1138 = .ok (.iaload, 1) := by decide +kernel
theorem dL_law_1139 : decode cL_law 1139 = .ok (.aload_n 0, 1) := by decide +kernel
theorem dL_law_1140 : decode cL_law 1140 = .ok (.iload_n 3, 1) := by decide +kernel
theorem dL_law_1141 : decode cL_law 1141 = .ok (.iconst 2, 1) := by decide +kernel
theorem dL_law_1142 : decode cL_law 1142 = .ok (.iadd, 1) := by decide +kernel
theorem dL_law_1143 : decode cL_law 1143 = .ok (.iaload, 1) := by decide +kernel
theorem dL_law_1144 : decode cL_law 1144 = .ok (.invokevirtual 134, 3) := by decide +kernel
theorem dL_law_1147 : decode cL_law 1147 = .ok (.aload_n 2, 1) := by decide +kernel
theorem dL_law_1148 : decode cL_law 1148 = .ok (.aload_n 0, 1) := by decide +kernel
theorem dL_law_1149 : decode cL_law 1149 = .ok (.iload_n 3, 1) := by decide +kernel
theorem dL_law_1150 : decode cL_law 1150 = .ok (.iconst 1, 1) := by decide +kernel
theorem dL_law_1151 : decode cL_law 1151 = .ok (.iadd, 1) := by decide +kernel
theorem dL_law_1152 : decode cL_law 1152 = .ok (.iaload, 1) := by decide +kernel
theorem dL_law_1153 : decode cL_law 1153 = .ok (.aload_n 0, 1) := by decide +kernel
theorem dL_law_1154 : decode cL_law 1154 = .ok (.iload_n 3, 1) := by decide +kernel
theorem dL_law_1155 : decode cL_law 1155 = .ok (.iconst 2, 1) := by decide +kernel
theorem dL_law_1156 : decode cL_law 1156 = .ok (.iadd, 1) := by decide +kernel
theorem dL_law_1157 : decode cL_law 1157 = .ok (.iaload, 1) := by decide +kernel
theorem dL_law_1158 : decode cL_law 1158 = .ok (.invokevirtual 137, 3) := by decide +kernel
theorem dL_law_1161 : decode cL_law 1161 = .ok (.if_icmp .eq 5, 3) := by decide +kernel
theorem dL_law_1164 : decode cL_law 1164 = .ok (.iconst 0, 1) := by decide +kernel
theorem dL_law_1165 : decode cL_law 1165 = .ok (.ireturn, 1) := by decide +kernel
theorem dL_law_1166 : decode cL_law 1166 = .ok (.iinc 3 6, 3) := by decide +kernel
theorem dL_law_1169 : decode cL_law 1169 = .ok (.goto (-1151), 3) := by decide +kernel
theorem dL_law_1172 : decode cL_law 1172 = .ok (.iconst 1, 1) := by decide +kernel
theorem dL_law_1173 : decode cL_law 1173 = .ok (.ireturn, 1) := by decide +kernel
end
