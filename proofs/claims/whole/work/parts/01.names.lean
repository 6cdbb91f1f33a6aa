-- ===== PART A: goes FIRST, ahead of the names: the tables' words, and 'selects' of the private methods out of them =====
/-- a private method of a class that the tables say can be made, by its rows of tables_1 -/
def lw_okq (q : MethodName × Nat) : Prop := (q.1.cls ≠ "java/lang/invoke/MethodHandle" ∧ q.1.cls ≠ "java/lang/invoke/VarHandle") ∧ Cond.instantiable q.1.cls q.2 ∈ tables_1 ∧ Cond.privateMethod q.1 ∈ tables_1 ∧ Cond.instanceMethod q.1 ∈ tables_1
theorem lw_p0 : lw_okq (⟨"TilesOfLaw$Reader", "advance", "()V"⟩, 9) := ⟨⟨by decide +kernel, by decide +kernel⟩, List.mem_of_getElem? (i := 93) (by decide +kernel), List.mem_of_getElem? (i := 206) (by decide +kernel), List.mem_of_getElem? (i := 207) (by decide +kernel)⟩
theorem lw_p1 : lw_okq (⟨"TilesOfLaw$Reader", "wordRead", "()I"⟩, 9) := ⟨⟨by decide +kernel, by decide +kernel⟩, List.mem_of_getElem? (i := 93) (by decide +kernel), List.mem_of_getElem? (i := 213) (by decide +kernel), List.mem_of_getElem? (i := 214) (by decide +kernel)⟩
theorem lw_p2 : lw_okq (⟨"TilesOfLaw$Reader", "spells", "(Ljava/lang/String;)Z"⟩, 9) := ⟨⟨by decide +kernel, by decide +kernel⟩, List.mem_of_getElem? (i := 93) (by decide +kernel), List.mem_of_getElem? (i := 218) (by decide +kernel), List.mem_of_getElem? (i := 219) (by decide +kernel)⟩
theorem lw_p3 : lw_okq (⟨"TilesOfLaw$Reader", "readDigits", "()V"⟩, 9) := ⟨⟨by decide +kernel, by decide +kernel⟩, List.mem_of_getElem? (i := 93) (by decide +kernel), List.mem_of_getElem? (i := 238) (by decide +kernel), List.mem_of_getElem? (i := 239) (by decide +kernel)⟩
theorem lw_p4 : lw_okq (⟨"TilesOfLaw$Reader", "readPart", "(I)I"⟩, 9) := ⟨⟨by decide +kernel, by decide +kernel⟩, List.mem_of_getElem? (i := 93) (by decide +kernel), List.mem_of_getElem? (i := 245) (by decide +kernel), List.mem_of_getElem? (i := 246) (by decide +kernel)⟩
theorem lw_p5 : lw_okq (⟨"TilesOfLaw$Reader", "need", "(I)V"⟩, 9) := ⟨⟨by decide +kernel, by decide +kernel⟩, List.mem_of_getElem? (i := 93) (by decide +kernel), List.mem_of_getElem? (i := 249) (by decide +kernel), List.mem_of_getElem? (i := 250) (by decide +kernel)⟩
theorem lw_p6 : lw_okq (⟨"TilesOfLaw$Reader", "refuse", "()V"⟩, 9) := ⟨⟨by decide +kernel, by decide +kernel⟩, List.mem_of_getElem? (i := 93) (by decide +kernel), List.mem_of_getElem? (i := 253) (by decide +kernel), List.mem_of_getElem? (i := 254) (by decide +kernel)⟩
theorem lw_p7 : lw_okq (⟨"TilesOfLaw$Reader", "readE", "(I)V"⟩, 9) := ⟨⟨by decide +kernel, by decide +kernel⟩, List.mem_of_getElem? (i := 93) (by decide +kernel), List.mem_of_getElem? (i := 257) (by decide +kernel), List.mem_of_getElem? (i := 258) (by decide +kernel)⟩
theorem lw_p8 : lw_okq (⟨"TilesOfLaw$Reader", "readAnd", "(I)V"⟩, 9) := ⟨⟨by decide +kernel, by decide +kernel⟩, List.mem_of_getElem? (i := 93) (by decide +kernel), List.mem_of_getElem? (i := 261) (by decide +kernel), List.mem_of_getElem? (i := 262) (by decide +kernel)⟩
theorem lw_p9 : lw_okq (⟨"TilesOfLaw$Reader", "readNot", "(I)V"⟩, 9) := ⟨⟨by decide +kernel, by decide +kernel⟩, List.mem_of_getElem? (i := 93) (by decide +kernel), List.mem_of_getElem? (i := 265) (by decide +kernel), List.mem_of_getElem? (i := 266) (by decide +kernel)⟩
theorem lw_p10 : lw_okq (⟨"TilesOfLaw$Reader", "write", "(I)V"⟩, 9) := ⟨⟨by decide +kernel, by decide +kernel⟩, List.mem_of_getElem? (i := 93) (by decide +kernel), List.mem_of_getElem? (i := 269) (by decide +kernel), List.mem_of_getElem? (i := 270) (by decide +kernel)⟩
theorem lw_p11 : lw_okq (⟨"TilesOfLaw$Reader", "readSum", "(I)V"⟩, 9) := ⟨⟨by decide +kernel, by decide +kernel⟩, List.mem_of_getElem? (i := 93) (by decide +kernel), List.mem_of_getElem? (i := 273) (by decide +kernel), List.mem_of_getElem? (i := 274) (by decide +kernel)⟩
theorem lw_p12 : lw_okq (⟨"TilesOfLaw$Reader", "readTerm", "(I)V"⟩, 9) := ⟨⟨by decide +kernel, by decide +kernel⟩, List.mem_of_getElem? (i := 93) (by decide +kernel), List.mem_of_getElem? (i := 277) (by decide +kernel), List.mem_of_getElem? (i := 278) (by decide +kernel)⟩
theorem lw_p13 : lw_okq (⟨"TilesOfLaw$Reader", "readOne", "(I)V"⟩, 9) := ⟨⟨by decide +kernel, by decide +kernel⟩, List.mem_of_getElem? (i := 93) (by decide +kernel), List.mem_of_getElem? (i := 281) (by decide +kernel), List.mem_of_getElem? (i := 282) (by decide +kernel)⟩
theorem lw_p14 : lw_okq (⟨"TilesOfLaw", "canSet", "(III)Z"⟩, 8) := ⟨⟨by decide +kernel, by decide +kernel⟩, List.mem_of_getElem? (i := 17) (by decide +kernel), List.mem_of_getElem? (i := 356) (by decide +kernel), List.mem_of_getElem? (i := 357) (by decide +kernel)⟩
theorem lw_p15 : lw_okq (⟨"TilesOfLaw", "isParty", "(I)Z"⟩, 8) := ⟨⟨by decide +kernel, by decide +kernel⟩, List.mem_of_getElem? (i := 17) (by decide +kernel), List.mem_of_getElem? (i := 370) (by decide +kernel), List.mem_of_getElem? (i := 371) (by decide +kernel)⟩
def lw_privs_1 : List (MethodName × Nat) := [(⟨"TilesOfLaw$Reader", "advance", "()V"⟩, 9), (⟨"TilesOfLaw$Reader", "wordRead", "()I"⟩, 9), (⟨"TilesOfLaw$Reader", "spells", "(Ljava/lang/String;)Z"⟩, 9), (⟨"TilesOfLaw$Reader", "readDigits", "()V"⟩, 9), (⟨"TilesOfLaw$Reader", "readPart", "(I)I"⟩, 9), (⟨"TilesOfLaw$Reader", "need", "(I)V"⟩, 9), (⟨"TilesOfLaw$Reader", "refuse", "()V"⟩, 9), (⟨"TilesOfLaw$Reader", "readE", "(I)V"⟩, 9), (⟨"TilesOfLaw$Reader", "readAnd", "(I)V"⟩, 9), (⟨"TilesOfLaw$Reader", "readNot", "(I)V"⟩, 9), (⟨"TilesOfLaw$Reader", "write", "(I)V"⟩, 9), (⟨"TilesOfLaw$Reader", "readSum", "(I)V"⟩, 9), (⟨"TilesOfLaw$Reader", "readTerm", "(I)V"⟩, 9), (⟨"TilesOfLaw$Reader", "readOne", "(I)V"⟩, 9), (⟨"TilesOfLaw", "canSet", "(III)Z"⟩, 8), (⟨"TilesOfLaw", "isParty", "(I)Z"⟩, 8)]
theorem lw_r1 : ∀ q ∈ lw_privs_1, lw_okq q := List.forall_mem_cons.mpr ⟨lw_p0, List.forall_mem_cons.mpr ⟨lw_p1, List.forall_mem_cons.mpr ⟨lw_p2, List.forall_mem_cons.mpr ⟨lw_p3, List.forall_mem_cons.mpr ⟨lw_p4, List.forall_mem_cons.mpr ⟨lw_p5, List.forall_mem_cons.mpr ⟨lw_p6, List.forall_mem_cons.mpr ⟨lw_p7, List.forall_mem_cons.mpr ⟨lw_p8, List.forall_mem_cons.mpr ⟨lw_p9, List.forall_mem_cons.mpr ⟨lw_p10, List.forall_mem_cons.mpr ⟨lw_p11, List.forall_mem_cons.mpr ⟨lw_p12, List.forall_mem_cons.mpr ⟨lw_p13, List.forall_mem_cons.mpr ⟨lw_p14, List.forall_mem_cons.mpr ⟨lw_p15, fun _ h => absurd h List.not_mem_nil⟩⟩⟩⟩⟩⟩⟩⟩⟩⟩⟩⟩⟩⟩⟩⟩
theorem lw_p16 : lw_okq (⟨"TilesOfLaw", "toldOfTile", "(II)I"⟩, 8) := ⟨⟨by decide +kernel, by decide +kernel⟩, List.mem_of_getElem? (i := 17) (by decide +kernel), List.mem_of_getElem? (i := 385) (by decide +kernel), List.mem_of_getElem? (i := 386) (by decide +kernel)⟩
theorem lw_p17 : lw_okq (⟨"TilesOfLaw", "toldOfParty", "(II)I"⟩, 8) := ⟨⟨by decide +kernel, by decide +kernel⟩, List.mem_of_getElem? (i := 17) (by decide +kernel), List.mem_of_getElem? (i := 393) (by decide +kernel), List.mem_of_getElem? (i := 394) (by decide +kernel)⟩
theorem lw_p18 : lw_okq (⟨"TilesOfLaw$Law", "value", "(LTilesOfLaw$Floor;II)I"⟩, 3) := ⟨⟨by decide +kernel, by decide +kernel⟩, List.mem_of_getElem? (i := 74) (by decide +kernel), List.mem_of_getElem? (i := 401) (by decide +kernel), List.mem_of_getElem? (i := 402) (by decide +kernel)⟩
theorem lw_p19 : lw_okq (⟨"TilesOfLaw$Floor", "leapsBy", "(II)Z"⟩, 9) := ⟨⟨by decide +kernel, by decide +kernel⟩, List.mem_of_getElem? (i := 25) (by decide +kernel), List.mem_of_getElem? (i := 479) (by decide +kernel), List.mem_of_getElem? (i := 480) (by decide +kernel)⟩
theorem lw_p20 : lw_okq (⟨"TilesOfLaw", "isText", "(I)Z"⟩, 8) := ⟨⟨by decide +kernel, by decide +kernel⟩, List.mem_of_getElem? (i := 17) (by decide +kernel), List.mem_of_getElem? (i := 518) (by decide +kernel), List.mem_of_getElem? (i := 519) (by decide +kernel)⟩
theorem lw_p21 : lw_okq (⟨"TilesOfLaw", "foundWithOneStill", "(III)I"⟩, 8) := ⟨⟨by decide +kernel, by decide +kernel⟩, List.mem_of_getElem? (i := 17) (by decide +kernel), List.mem_of_getElem? (i := 580) (by decide +kernel), List.mem_of_getElem? (i := 581) (by decide +kernel)⟩
theorem lw_p22 : lw_okq (⟨"TilesOfLaw", "foundWithRed", "(II)I"⟩, 8) := ⟨⟨by decide +kernel, by decide +kernel⟩, List.mem_of_getElem? (i := 17) (by decide +kernel), List.mem_of_getElem? (i := 584) (by decide +kernel), List.mem_of_getElem? (i := 585) (by decide +kernel)⟩
theorem lw_p23 : lw_okq (⟨"TilesOfLaw", "foundWithHollow", "(III)I"⟩, 8) := ⟨⟨by decide +kernel, by decide +kernel⟩, List.mem_of_getElem? (i := 17) (by decide +kernel), List.mem_of_getElem? (i := 588) (by decide +kernel), List.mem_of_getElem? (i := 589) (by decide +kernel)⟩
theorem lw_p24 : lw_okq (⟨"TilesOfLaw", "sheetAt", "(I)LTilesOfLaw$Sheet;"⟩, 8) := ⟨⟨by decide +kernel, by decide +kernel⟩, List.mem_of_getElem? (i := 17) (by decide +kernel), List.mem_of_getElem? (i := 603) (by decide +kernel), List.mem_of_getElem? (i := 604) (by decide +kernel)⟩
theorem lw_p25 : lw_okq (⟨"TilesOfLaw", "firstOtherwise", "(LTilesOfLaw$Sheet;I)I"⟩, 8) := ⟨⟨by decide +kernel, by decide +kernel⟩, List.mem_of_getElem? (i := 17) (by decide +kernel), List.mem_of_getElem? (i := 607) (by decide +kernel), List.mem_of_getElem? (i := 608) (by decide +kernel)⟩
theorem lw_p26 : lw_okq (⟨"TilesOfLaw", "wearyTold", "(LTilesOfLaw$Sheet;II)I"⟩, 8) := ⟨⟨by decide +kernel, by decide +kernel⟩, List.mem_of_getElem? (i := 17) (by decide +kernel), List.mem_of_getElem? (i := 612) (by decide +kernel), List.mem_of_getElem? (i := 613) (by decide +kernel)⟩
theorem lw_p27 : lw_okq (⟨"TilesOfLaw", "bitsTold", "(LTilesOfLaw$Sheet;II)I"⟩, 8) := ⟨⟨by decide +kernel, by decide +kernel⟩, List.mem_of_getElem? (i := 17) (by decide +kernel), List.mem_of_getElem? (i := 616) (by decide +kernel), List.mem_of_getElem? (i := 617) (by decide +kernel)⟩
theorem lw_p28 : lw_okq (⟨"TilesOfLawModel", "spell", "(IIIIIIIII)V"⟩, 41) := ⟨⟨by decide +kernel, by decide +kernel⟩, List.mem_of_getElem? (i := 695) (by decide +kernel), List.mem_of_getElem? (i := 701) (by decide +kernel), List.mem_of_getElem? (i := 702) (by decide +kernel)⟩
theorem lw_p29 : lw_okq (⟨"TilesOfLawModel", "isOf", "(II)Z"⟩, 41) := ⟨⟨by decide +kernel, by decide +kernel⟩, List.mem_of_getElem? (i := 695) (by decide +kernel), List.mem_of_getElem? (i := 837) (by decide +kernel), List.mem_of_getElem? (i := 838) (by decide +kernel)⟩
theorem lw_p30 : lw_okq (⟨"TilesOfLawModel", "isOne", "(I)Z"⟩, 41) := ⟨⟨by decide +kernel, by decide +kernel⟩, List.mem_of_getElem? (i := 695) (by decide +kernel), List.mem_of_getElem? (i := 845) (by decide +kernel), List.mem_of_getElem? (i := 846) (by decide +kernel)⟩
theorem lw_p31 : lw_okq (⟨"TilesOfLawModel", "whoOn", "(I)I"⟩, 41) := ⟨⟨by decide +kernel, by decide +kernel⟩, List.mem_of_getElem? (i := 695) (by decide +kernel), List.mem_of_getElem? (i := 852) (by decide +kernel), List.mem_of_getElem? (i := 853) (by decide +kernel)⟩
def lw_privs_2 : List (MethodName × Nat) := [(⟨"TilesOfLaw", "toldOfTile", "(II)I"⟩, 8), (⟨"TilesOfLaw", "toldOfParty", "(II)I"⟩, 8), (⟨"TilesOfLaw$Law", "value", "(LTilesOfLaw$Floor;II)I"⟩, 3), (⟨"TilesOfLaw$Floor", "leapsBy", "(II)Z"⟩, 9), (⟨"TilesOfLaw", "isText", "(I)Z"⟩, 8), (⟨"TilesOfLaw", "foundWithOneStill", "(III)I"⟩, 8), (⟨"TilesOfLaw", "foundWithRed", "(II)I"⟩, 8), (⟨"TilesOfLaw", "foundWithHollow", "(III)I"⟩, 8), (⟨"TilesOfLaw", "sheetAt", "(I)LTilesOfLaw$Sheet;"⟩, 8), (⟨"TilesOfLaw", "firstOtherwise", "(LTilesOfLaw$Sheet;I)I"⟩, 8), (⟨"TilesOfLaw", "wearyTold", "(LTilesOfLaw$Sheet;II)I"⟩, 8), (⟨"TilesOfLaw", "bitsTold", "(LTilesOfLaw$Sheet;II)I"⟩, 8), (⟨"TilesOfLawModel", "spell", "(IIIIIIIII)V"⟩, 41), (⟨"TilesOfLawModel", "isOf", "(II)Z"⟩, 41), (⟨"TilesOfLawModel", "isOne", "(I)Z"⟩, 41), (⟨"TilesOfLawModel", "whoOn", "(I)I"⟩, 41)]
theorem lw_r2 : ∀ q ∈ lw_privs_2, lw_okq q := List.forall_mem_cons.mpr ⟨lw_p16, List.forall_mem_cons.mpr ⟨lw_p17, List.forall_mem_cons.mpr ⟨lw_p18, List.forall_mem_cons.mpr ⟨lw_p19, List.forall_mem_cons.mpr ⟨lw_p20, List.forall_mem_cons.mpr ⟨lw_p21, List.forall_mem_cons.mpr ⟨lw_p22, List.forall_mem_cons.mpr ⟨lw_p23, List.forall_mem_cons.mpr ⟨lw_p24, List.forall_mem_cons.mpr ⟨lw_p25, List.forall_mem_cons.mpr ⟨lw_p26, List.forall_mem_cons.mpr ⟨lw_p27, List.forall_mem_cons.mpr ⟨lw_p28, List.forall_mem_cons.mpr ⟨lw_p29, List.forall_mem_cons.mpr ⟨lw_p30, List.forall_mem_cons.mpr ⟨lw_p31, fun _ h => absurd h List.not_mem_nil⟩⟩⟩⟩⟩⟩⟩⟩⟩⟩⟩⟩⟩⟩⟩⟩
theorem lw_p32 : lw_okq (⟨"TilesOfLawModel", "onOf", "(I)I"⟩, 41) := ⟨⟨by decide +kernel, by decide +kernel⟩, List.mem_of_getElem? (i := 695) (by decide +kernel), List.mem_of_getElem? (i := 856) (by decide +kernel), List.mem_of_getElem? (i := 857) (by decide +kernel)⟩
theorem lw_p33 : lw_okq (⟨"TilesOfLawModel", "turnOf", "(I)I"⟩, 41) := ⟨⟨by decide +kernel, by decide +kernel⟩, List.mem_of_getElem? (i := 695) (by decide +kernel), List.mem_of_getElem? (i := 868) (by decide +kernel), List.mem_of_getElem? (i := 869) (by decide +kernel)⟩
theorem lw_p34 : lw_okq (⟨"TilesOfLawModel", "says", "(II)I"⟩, 41) := ⟨⟨by decide +kernel, by decide +kernel⟩, List.mem_of_getElem? (i := 695) (by decide +kernel), List.mem_of_getElem? (i := 872) (by decide +kernel), List.mem_of_getElem? (i := 873) (by decide +kernel)⟩
theorem lw_p35 : lw_okq (⟨"TilesOfLawModel", "read", "(II)I"⟩, 41) := ⟨⟨by decide +kernel, by decide +kernel⟩, List.mem_of_getElem? (i := 695) (by decide +kernel), List.mem_of_getElem? (i := 879) (by decide +kernel), List.mem_of_getElem? (i := 880) (by decide +kernel)⟩
theorem lw_p36 : lw_okq (⟨"TilesOfLawModel", "next", "()V"⟩, 41) := ⟨⟨by decide +kernel, by decide +kernel⟩, List.mem_of_getElem? (i := 695) (by decide +kernel), List.mem_of_getElem? (i := 883) (by decide +kernel), List.mem_of_getElem? (i := 884) (by decide +kernel)⟩
theorem lw_p37 : lw_okq (⟨"TilesOfLawModel", "byteAt", "(I)I"⟩, 41) := ⟨⟨by decide +kernel, by decide +kernel⟩, List.mem_of_getElem? (i := 695) (by decide +kernel), List.mem_of_getElem? (i := 887) (by decide +kernel), List.mem_of_getElem? (i := 888) (by decide +kernel)⟩
theorem lw_p38 : lw_okq (⟨"TilesOfLawModel", "isWord", "(IIIIIIII)Z"⟩, 41) := ⟨⟨by decide +kernel, by decide +kernel⟩, List.mem_of_getElem? (i := 695) (by decide +kernel), List.mem_of_getElem? (i := 896) (by decide +kernel), List.mem_of_getElem? (i := 897) (by decide +kernel)⟩
theorem lw_p39 : lw_okq (⟨"TilesOfLawModel", "isLetter", "(II)Z"⟩, 41) := ⟨⟨by decide +kernel, by decide +kernel⟩, List.mem_of_getElem? (i := 695) (by decide +kernel), List.mem_of_getElem? (i := 900) (by decide +kernel), List.mem_of_getElem? (i := 901) (by decide +kernel)⟩
theorem lw_p40 : lw_okq (⟨"TilesOfLawModel", "part", "(Z)I"⟩, 41) := ⟨⟨by decide +kernel, by decide +kernel⟩, List.mem_of_getElem? (i := 695) (by decide +kernel), List.mem_of_getElem? (i := 904) (by decide +kernel), List.mem_of_getElem? (i := 905) (by decide +kernel)⟩
theorem lw_p41 : lw_okq (⟨"TilesOfLawModel", "fail", "()V"⟩, 41) := ⟨⟨by decide +kernel, by decide +kernel⟩, List.mem_of_getElem? (i := 695) (by decide +kernel), List.mem_of_getElem? (i := 908) (by decide +kernel), List.mem_of_getElem? (i := 909) (by decide +kernel)⟩
theorem lw_p42 : lw_okq (⟨"TilesOfLawModel", "either0", "()I"⟩, 41) := ⟨⟨by decide +kernel, by decide +kernel⟩, List.mem_of_getElem? (i := 695) (by decide +kernel), List.mem_of_getElem? (i := 912) (by decide +kernel), List.mem_of_getElem? (i := 913) (by decide +kernel)⟩
theorem lw_p43 : lw_okq (⟨"TilesOfLawModel", "both0", "()I"⟩, 41) := ⟨⟨by decide +kernel, by decide +kernel⟩, List.mem_of_getElem? (i := 695) (by decide +kernel), List.mem_of_getElem? (i := 916) (by decide +kernel), List.mem_of_getElem? (i := 917) (by decide +kernel)⟩
theorem lw_p44 : lw_okq (⟨"TilesOfLawModel", "not0", "()I"⟩, 41) := ⟨⟨by decide +kernel, by decide +kernel⟩, List.mem_of_getElem? (i := 695) (by decide +kernel), List.mem_of_getElem? (i := 920) (by decide +kernel), List.mem_of_getElem? (i := 921) (by decide +kernel)⟩
theorem lw_p45 : lw_okq (⟨"TilesOfLawModel", "opens", "()Z"⟩, 41) := ⟨⟨by decide +kernel, by decide +kernel⟩, List.mem_of_getElem? (i := 695) (by decide +kernel), List.mem_of_getElem? (i := 924) (by decide +kernel), List.mem_of_getElem? (i := 925) (by decide +kernel)⟩
theorem lw_p46 : lw_okq (⟨"TilesOfLawModel", "not1", "()I"⟩, 41) := ⟨⟨by decide +kernel, by decide +kernel⟩, List.mem_of_getElem? (i := 695) (by decide +kernel), List.mem_of_getElem? (i := 928) (by decide +kernel), List.mem_of_getElem? (i := 929) (by decide +kernel)⟩
theorem lw_p47 : lw_okq (⟨"TilesOfLawModel", "not2", "()I"⟩, 41) := ⟨⟨by decide +kernel, by decide +kernel⟩, List.mem_of_getElem? (i := 695) (by decide +kernel), List.mem_of_getElem? (i := 932) (by decide +kernel), List.mem_of_getElem? (i := 933) (by decide +kernel)⟩
def lw_privs_3 : List (MethodName × Nat) := [(⟨"TilesOfLawModel", "onOf", "(I)I"⟩, 41), (⟨"TilesOfLawModel", "turnOf", "(I)I"⟩, 41), (⟨"TilesOfLawModel", "says", "(II)I"⟩, 41), (⟨"TilesOfLawModel", "read", "(II)I"⟩, 41), (⟨"TilesOfLawModel", "next", "()V"⟩, 41), (⟨"TilesOfLawModel", "byteAt", "(I)I"⟩, 41), (⟨"TilesOfLawModel", "isWord", "(IIIIIIII)Z"⟩, 41), (⟨"TilesOfLawModel", "isLetter", "(II)Z"⟩, 41), (⟨"TilesOfLawModel", "part", "(Z)I"⟩, 41), (⟨"TilesOfLawModel", "fail", "()V"⟩, 41), (⟨"TilesOfLawModel", "either0", "()I"⟩, 41), (⟨"TilesOfLawModel", "both0", "()I"⟩, 41), (⟨"TilesOfLawModel", "not0", "()I"⟩, 41), (⟨"TilesOfLawModel", "opens", "()Z"⟩, 41), (⟨"TilesOfLawModel", "not1", "()I"⟩, 41), (⟨"TilesOfLawModel", "not2", "()I"⟩, 41)]
theorem lw_r3 : ∀ q ∈ lw_privs_3, lw_okq q := List.forall_mem_cons.mpr ⟨lw_p32, List.forall_mem_cons.mpr ⟨lw_p33, List.forall_mem_cons.mpr ⟨lw_p34, List.forall_mem_cons.mpr ⟨lw_p35, List.forall_mem_cons.mpr ⟨lw_p36, List.forall_mem_cons.mpr ⟨lw_p37, List.forall_mem_cons.mpr ⟨lw_p38, List.forall_mem_cons.mpr ⟨lw_p39, List.forall_mem_cons.mpr ⟨lw_p40, List.forall_mem_cons.mpr ⟨lw_p41, List.forall_mem_cons.mpr ⟨lw_p42, List.forall_mem_cons.mpr ⟨lw_p43, List.forall_mem_cons.mpr ⟨lw_p44, List.forall_mem_cons.mpr ⟨lw_p45, List.forall_mem_cons.mpr ⟨lw_p46, List.forall_mem_cons.mpr ⟨lw_p47, fun _ h => absurd h List.not_mem_nil⟩⟩⟩⟩⟩⟩⟩⟩⟩⟩⟩⟩⟩⟩⟩⟩
theorem lw_p48 : lw_okq (⟨"TilesOfLawModel", "not3", "()I"⟩, 41) := ⟨⟨by decide +kernel, by decide +kernel⟩, List.mem_of_getElem? (i := 695) (by decide +kernel), List.mem_of_getElem? (i := 936) (by decide +kernel), List.mem_of_getElem? (i := 937) (by decide +kernel)⟩
theorem lw_p49 : lw_okq (⟨"TilesOfLawModel", "not4", "()I"⟩, 41) := ⟨⟨by decide +kernel, by decide +kernel⟩, List.mem_of_getElem? (i := 695) (by decide +kernel), List.mem_of_getElem? (i := 940) (by decide +kernel), List.mem_of_getElem? (i := 941) (by decide +kernel)⟩
theorem lw_p50 : lw_okq (⟨"TilesOfLawModel", "not5", "()I"⟩, 41) := ⟨⟨by decide +kernel, by decide +kernel⟩, List.mem_of_getElem? (i := 695) (by decide +kernel), List.mem_of_getElem? (i := 944) (by decide +kernel), List.mem_of_getElem? (i := 945) (by decide +kernel)⟩
theorem lw_p51 : lw_okq (⟨"TilesOfLawModel", "added5", "()I"⟩, 41) := ⟨⟨by decide +kernel, by decide +kernel⟩, List.mem_of_getElem? (i := 695) (by decide +kernel), List.mem_of_getElem? (i := 948) (by decide +kernel), List.mem_of_getElem? (i := 949) (by decide +kernel)⟩
theorem lw_p52 : lw_okq (⟨"TilesOfLawModel", "term5", "()I"⟩, 41) := ⟨⟨by decide +kernel, by decide +kernel⟩, List.mem_of_getElem? (i := 695) (by decide +kernel), List.mem_of_getElem? (i := 952) (by decide +kernel), List.mem_of_getElem? (i := 953) (by decide +kernel)⟩
theorem lw_p53 : lw_okq (⟨"TilesOfLawModel", "atom5", "()I"⟩, 41) := ⟨⟨by decide +kernel, by decide +kernel⟩, List.mem_of_getElem? (i := 695) (by decide +kernel), List.mem_of_getElem? (i := 956) (by decide +kernel), List.mem_of_getElem? (i := 957) (by decide +kernel)⟩
theorem lw_p54 : lw_okq (⟨"TilesOfLawModel", "isSign", "(I)Z"⟩, 41) := ⟨⟨by decide +kernel, by decide +kernel⟩, List.mem_of_getElem? (i := 695) (by decide +kernel), List.mem_of_getElem? (i := 960) (by decide +kernel), List.mem_of_getElem? (i := 961) (by decide +kernel)⟩
theorem lw_p55 : lw_okq (⟨"TilesOfLawModel", "name", "()I"⟩, 41) := ⟨⟨by decide +kernel, by decide +kernel⟩, List.mem_of_getElem? (i := 695) (by decide +kernel), List.mem_of_getElem? (i := 964) (by decide +kernel), List.mem_of_getElem? (i := 965) (by decide +kernel)⟩
theorem lw_p56 : lw_okq (⟨"TilesOfLawModel", "added4", "()I"⟩, 41) := ⟨⟨by decide +kernel, by decide +kernel⟩, List.mem_of_getElem? (i := 695) (by decide +kernel), List.mem_of_getElem? (i := 970) (by decide +kernel), List.mem_of_getElem? (i := 971) (by decide +kernel)⟩
theorem lw_p57 : lw_okq (⟨"TilesOfLawModel", "term4", "()I"⟩, 41) := ⟨⟨by decide +kernel, by decide +kernel⟩, List.mem_of_getElem? (i := 695) (by decide +kernel), List.mem_of_getElem? (i := 974) (by decide +kernel), List.mem_of_getElem? (i := 975) (by decide +kernel)⟩
theorem lw_p58 : lw_okq (⟨"TilesOfLawModel", "atom4", "()I"⟩, 41) := ⟨⟨by decide +kernel, by decide +kernel⟩, List.mem_of_getElem? (i := 695) (by decide +kernel), List.mem_of_getElem? (i := 978) (by decide +kernel), List.mem_of_getElem? (i := 979) (by decide +kernel)⟩
theorem lw_p59 : lw_okq (⟨"TilesOfLawModel", "either5", "()I"⟩, 41) := ⟨⟨by decide +kernel, by decide +kernel⟩, List.mem_of_getElem? (i := 695) (by decide +kernel), List.mem_of_getElem? (i := 982) (by decide +kernel), List.mem_of_getElem? (i := 983) (by decide +kernel)⟩
theorem lw_p60 : lw_okq (⟨"TilesOfLawModel", "both5", "()I"⟩, 41) := ⟨⟨by decide +kernel, by decide +kernel⟩, List.mem_of_getElem? (i := 695) (by decide +kernel), List.mem_of_getElem? (i := 986) (by decide +kernel), List.mem_of_getElem? (i := 987) (by decide +kernel)⟩
theorem lw_p61 : lw_okq (⟨"TilesOfLawModel", "added3", "()I"⟩, 41) := ⟨⟨by decide +kernel, by decide +kernel⟩, List.mem_of_getElem? (i := 695) (by decide +kernel), List.mem_of_getElem? (i := 990) (by decide +kernel), List.mem_of_getElem? (i := 991) (by decide +kernel)⟩
theorem lw_p62 : lw_okq (⟨"TilesOfLawModel", "term3", "()I"⟩, 41) := ⟨⟨by decide +kernel, by decide +kernel⟩, List.mem_of_getElem? (i := 695) (by decide +kernel), List.mem_of_getElem? (i := 994) (by decide +kernel), List.mem_of_getElem? (i := 995) (by decide +kernel)⟩
theorem lw_p63 : lw_okq (⟨"TilesOfLawModel", "atom3", "()I"⟩, 41) := ⟨⟨by decide +kernel, by decide +kernel⟩, List.mem_of_getElem? (i := 695) (by decide +kernel), List.mem_of_getElem? (i := 998) (by decide +kernel), List.mem_of_getElem? (i := 999) (by decide +kernel)⟩
def lw_privs_4 : List (MethodName × Nat) := [(⟨"TilesOfLawModel", "not3", "()I"⟩, 41), (⟨"TilesOfLawModel", "not4", "()I"⟩, 41), (⟨"TilesOfLawModel", "not5", "()I"⟩, 41), (⟨"TilesOfLawModel", "added5", "()I"⟩, 41), (⟨"TilesOfLawModel", "term5", "()I"⟩, 41), (⟨"TilesOfLawModel", "atom5", "()I"⟩, 41), (⟨"TilesOfLawModel", "isSign", "(I)Z"⟩, 41), (⟨"TilesOfLawModel", "name", "()I"⟩, 41), (⟨"TilesOfLawModel", "added4", "()I"⟩, 41), (⟨"TilesOfLawModel", "term4", "()I"⟩, 41), (⟨"TilesOfLawModel", "atom4", "()I"⟩, 41), (⟨"TilesOfLawModel", "either5", "()I"⟩, 41), (⟨"TilesOfLawModel", "both5", "()I"⟩, 41), (⟨"TilesOfLawModel", "added3", "()I"⟩, 41), (⟨"TilesOfLawModel", "term3", "()I"⟩, 41), (⟨"TilesOfLawModel", "atom3", "()I"⟩, 41)]
theorem lw_r4 : ∀ q ∈ lw_privs_4, lw_okq q := List.forall_mem_cons.mpr ⟨lw_p48, List.forall_mem_cons.mpr ⟨lw_p49, List.forall_mem_cons.mpr ⟨lw_p50, List.forall_mem_cons.mpr ⟨lw_p51, List.forall_mem_cons.mpr ⟨lw_p52, List.forall_mem_cons.mpr ⟨lw_p53, List.forall_mem_cons.mpr ⟨lw_p54, List.forall_mem_cons.mpr ⟨lw_p55, List.forall_mem_cons.mpr ⟨lw_p56, List.forall_mem_cons.mpr ⟨lw_p57, List.forall_mem_cons.mpr ⟨lw_p58, List.forall_mem_cons.mpr ⟨lw_p59, List.forall_mem_cons.mpr ⟨lw_p60, List.forall_mem_cons.mpr ⟨lw_p61, List.forall_mem_cons.mpr ⟨lw_p62, List.forall_mem_cons.mpr ⟨lw_p63, fun _ h => absurd h List.not_mem_nil⟩⟩⟩⟩⟩⟩⟩⟩⟩⟩⟩⟩⟩⟩⟩⟩
theorem lw_p64 : lw_okq (⟨"TilesOfLawModel", "either4", "()I"⟩, 41) := ⟨⟨by decide +kernel, by decide +kernel⟩, List.mem_of_getElem? (i := 695) (by decide +kernel), List.mem_of_getElem? (i := 1002) (by decide +kernel), List.mem_of_getElem? (i := 1003) (by decide +kernel)⟩
theorem lw_p65 : lw_okq (⟨"TilesOfLawModel", "both4", "()I"⟩, 41) := ⟨⟨by decide +kernel, by decide +kernel⟩, List.mem_of_getElem? (i := 695) (by decide +kernel), List.mem_of_getElem? (i := 1006) (by decide +kernel), List.mem_of_getElem? (i := 1007) (by decide +kernel)⟩
theorem lw_p66 : lw_okq (⟨"TilesOfLawModel", "added2", "()I"⟩, 41) := ⟨⟨by decide +kernel, by decide +kernel⟩, List.mem_of_getElem? (i := 695) (by decide +kernel), List.mem_of_getElem? (i := 1010) (by decide +kernel), List.mem_of_getElem? (i := 1011) (by decide +kernel)⟩
theorem lw_p67 : lw_okq (⟨"TilesOfLawModel", "term2", "()I"⟩, 41) := ⟨⟨by decide +kernel, by decide +kernel⟩, List.mem_of_getElem? (i := 695) (by decide +kernel), List.mem_of_getElem? (i := 1014) (by decide +kernel), List.mem_of_getElem? (i := 1015) (by decide +kernel)⟩
theorem lw_p68 : lw_okq (⟨"TilesOfLawModel", "atom2", "()I"⟩, 41) := ⟨⟨by decide +kernel, by decide +kernel⟩, List.mem_of_getElem? (i := 695) (by decide +kernel), List.mem_of_getElem? (i := 1018) (by decide +kernel), List.mem_of_getElem? (i := 1019) (by decide +kernel)⟩
theorem lw_p69 : lw_okq (⟨"TilesOfLawModel", "either3", "()I"⟩, 41) := ⟨⟨by decide +kernel, by decide +kernel⟩, List.mem_of_getElem? (i := 695) (by decide +kernel), List.mem_of_getElem? (i := 1022) (by decide +kernel), List.mem_of_getElem? (i := 1023) (by decide +kernel)⟩
theorem lw_p70 : lw_okq (⟨"TilesOfLawModel", "both3", "()I"⟩, 41) := ⟨⟨by decide +kernel, by decide +kernel⟩, List.mem_of_getElem? (i := 695) (by decide +kernel), List.mem_of_getElem? (i := 1026) (by decide +kernel), List.mem_of_getElem? (i := 1027) (by decide +kernel)⟩
theorem lw_p71 : lw_okq (⟨"TilesOfLawModel", "added1", "()I"⟩, 41) := ⟨⟨by decide +kernel, by decide +kernel⟩, List.mem_of_getElem? (i := 695) (by decide +kernel), List.mem_of_getElem? (i := 1030) (by decide +kernel), List.mem_of_getElem? (i := 1031) (by decide +kernel)⟩
theorem lw_p72 : lw_okq (⟨"TilesOfLawModel", "term1", "()I"⟩, 41) := ⟨⟨by decide +kernel, by decide +kernel⟩, List.mem_of_getElem? (i := 695) (by decide +kernel), List.mem_of_getElem? (i := 1034) (by decide +kernel), List.mem_of_getElem? (i := 1035) (by decide +kernel)⟩
theorem lw_p73 : lw_okq (⟨"TilesOfLawModel", "atom1", "()I"⟩, 41) := ⟨⟨by decide +kernel, by decide +kernel⟩, List.mem_of_getElem? (i := 695) (by decide +kernel), List.mem_of_getElem? (i := 1038) (by decide +kernel), List.mem_of_getElem? (i := 1039) (by decide +kernel)⟩
theorem lw_p74 : lw_okq (⟨"TilesOfLawModel", "either2", "()I"⟩, 41) := ⟨⟨by decide +kernel, by decide +kernel⟩, List.mem_of_getElem? (i := 695) (by decide +kernel), List.mem_of_getElem? (i := 1042) (by decide +kernel), List.mem_of_getElem? (i := 1043) (by decide +kernel)⟩
theorem lw_p75 : lw_okq (⟨"TilesOfLawModel", "both2", "()I"⟩, 41) := ⟨⟨by decide +kernel, by decide +kernel⟩, List.mem_of_getElem? (i := 695) (by decide +kernel), List.mem_of_getElem? (i := 1046) (by decide +kernel), List.mem_of_getElem? (i := 1047) (by decide +kernel)⟩
theorem lw_p76 : lw_okq (⟨"TilesOfLawModel", "added0", "()I"⟩, 41) := ⟨⟨by decide +kernel, by decide +kernel⟩, List.mem_of_getElem? (i := 695) (by decide +kernel), List.mem_of_getElem? (i := 1050) (by decide +kernel), List.mem_of_getElem? (i := 1051) (by decide +kernel)⟩
theorem lw_p77 : lw_okq (⟨"TilesOfLawModel", "term0", "()I"⟩, 41) := ⟨⟨by decide +kernel, by decide +kernel⟩, List.mem_of_getElem? (i := 695) (by decide +kernel), List.mem_of_getElem? (i := 1054) (by decide +kernel), List.mem_of_getElem? (i := 1055) (by decide +kernel)⟩
theorem lw_p78 : lw_okq (⟨"TilesOfLawModel", "atom0", "()I"⟩, 41) := ⟨⟨by decide +kernel, by decide +kernel⟩, List.mem_of_getElem? (i := 695) (by decide +kernel), List.mem_of_getElem? (i := 1058) (by decide +kernel), List.mem_of_getElem? (i := 1059) (by decide +kernel)⟩
theorem lw_p79 : lw_okq (⟨"TilesOfLawModel", "either1", "()I"⟩, 41) := ⟨⟨by decide +kernel, by decide +kernel⟩, List.mem_of_getElem? (i := 695) (by decide +kernel), List.mem_of_getElem? (i := 1062) (by decide +kernel), List.mem_of_getElem? (i := 1063) (by decide +kernel)⟩
def lw_privs_5 : List (MethodName × Nat) := [(⟨"TilesOfLawModel", "either4", "()I"⟩, 41), (⟨"TilesOfLawModel", "both4", "()I"⟩, 41), (⟨"TilesOfLawModel", "added2", "()I"⟩, 41), (⟨"TilesOfLawModel", "term2", "()I"⟩, 41), (⟨"TilesOfLawModel", "atom2", "()I"⟩, 41), (⟨"TilesOfLawModel", "either3", "()I"⟩, 41), (⟨"TilesOfLawModel", "both3", "()I"⟩, 41), (⟨"TilesOfLawModel", "added1", "()I"⟩, 41), (⟨"TilesOfLawModel", "term1", "()I"⟩, 41), (⟨"TilesOfLawModel", "atom1", "()I"⟩, 41), (⟨"TilesOfLawModel", "either2", "()I"⟩, 41), (⟨"TilesOfLawModel", "both2", "()I"⟩, 41), (⟨"TilesOfLawModel", "added0", "()I"⟩, 41), (⟨"TilesOfLawModel", "term0", "()I"⟩, 41), (⟨"TilesOfLawModel", "atom0", "()I"⟩, 41), (⟨"TilesOfLawModel", "either1", "()I"⟩, 41)]
theorem lw_r5 : ∀ q ∈ lw_privs_5, lw_okq q := List.forall_mem_cons.mpr ⟨lw_p64, List.forall_mem_cons.mpr ⟨lw_p65, List.forall_mem_cons.mpr ⟨lw_p66, List.forall_mem_cons.mpr ⟨lw_p67, List.forall_mem_cons.mpr ⟨lw_p68, List.forall_mem_cons.mpr ⟨lw_p69, List.forall_mem_cons.mpr ⟨lw_p70, List.forall_mem_cons.mpr ⟨lw_p71, List.forall_mem_cons.mpr ⟨lw_p72, List.forall_mem_cons.mpr ⟨lw_p73, List.forall_mem_cons.mpr ⟨lw_p74, List.forall_mem_cons.mpr ⟨lw_p75, List.forall_mem_cons.mpr ⟨lw_p76, List.forall_mem_cons.mpr ⟨lw_p77, List.forall_mem_cons.mpr ⟨lw_p78, List.forall_mem_cons.mpr ⟨lw_p79, fun _ h => absurd h List.not_mem_nil⟩⟩⟩⟩⟩⟩⟩⟩⟩⟩⟩⟩⟩⟩⟩⟩
theorem lw_p80 : lw_okq (⟨"TilesOfLawModel", "both1", "()I"⟩, 41) := ⟨⟨by decide +kernel, by decide +kernel⟩, List.mem_of_getElem? (i := 695) (by decide +kernel), List.mem_of_getElem? (i := 1066) (by decide +kernel), List.mem_of_getElem? (i := 1067) (by decide +kernel)⟩
theorem lw_p81 : lw_okq (⟨"TilesOfLawModel", "tiresOf", "(I)I"⟩, 41) := ⟨⟨by decide +kernel, by decide +kernel⟩, List.mem_of_getElem? (i := 695) (by decide +kernel), List.mem_of_getElem? (i := 1073) (by decide +kernel), List.mem_of_getElem? (i := 1074) (by decide +kernel)⟩
theorem lw_p82 : lw_okq (⟨"TilesOfLawModel", "restsOf", "(I)I"⟩, 41) := ⟨⟨by decide +kernel, by decide +kernel⟩, List.mem_of_getElem? (i := 695) (by decide +kernel), List.mem_of_getElem? (i := 1077) (by decide +kernel), List.mem_of_getElem? (i := 1078) (by decide +kernel)⟩
theorem lw_p83 : lw_okq (⟨"TilesOfLawModel", "foundOf", "(I)I"⟩, 41) := ⟨⟨by decide +kernel, by decide +kernel⟩, List.mem_of_getElem? (i := 695) (by decide +kernel), List.mem_of_getElem? (i := 1081) (by decide +kernel), List.mem_of_getElem? (i := 1082) (by decide +kernel)⟩
theorem lw_p84 : lw_okq (⟨"TilesOfLawModel", "lays", "(III)V"⟩, 41) := ⟨⟨by decide +kernel, by decide +kernel⟩, List.mem_of_getElem? (i := 695) (by decide +kernel), List.mem_of_getElem? (i := 1088) (by decide +kernel), List.mem_of_getElem? (i := 1089) (by decide +kernel)⟩
theorem lw_p85 : lw_okq (⟨"TilesOfLawModel", "stoodOn", "()J"⟩, 41) := ⟨⟨by decide +kernel, by decide +kernel⟩, List.mem_of_getElem? (i := 695) (by decide +kernel), List.mem_of_getElem? (i := 1105) (by decide +kernel), List.mem_of_getElem? (i := 1106) (by decide +kernel)⟩
theorem lw_p86 : lw_okq (⟨"TilesOfLawModel", "leapFrom", "(III)I"⟩, 41) := ⟨⟨by decide +kernel, by decide +kernel⟩, List.mem_of_getElem? (i := 695) (by decide +kernel), List.mem_of_getElem? (i := 1127) (by decide +kernel), List.mem_of_getElem? (i := 1128) (by decide +kernel)⟩
theorem lw_p87 : lw_okq (⟨"TilesOfLawModel", "passes", "()I"⟩, 41) := ⟨⟨by decide +kernel, by decide +kernel⟩, List.mem_of_getElem? (i := 695) (by decide +kernel), List.mem_of_getElem? (i := 1141) (by decide +kernel), List.mem_of_getElem? (i := 1142) (by decide +kernel)⟩
theorem lw_p88 : lw_okq (⟨"TilesOfLawModel", "laysAside", "()V"⟩, 41) := ⟨⟨by decide +kernel, by decide +kernel⟩, List.mem_of_getElem? (i := 695) (by decide +kernel), List.mem_of_getElem? (i := 1151) (by decide +kernel), List.mem_of_getElem? (i := 1152) (by decide +kernel)⟩
theorem lw_p89 : lw_okq (⟨"TilesOfLawModel", "goes", "(I)V"⟩, 41) := ⟨⟨by decide +kernel, by decide +kernel⟩, List.mem_of_getElem? (i := 695) (by decide +kernel), List.mem_of_getElem? (i := 1155) (by decide +kernel), List.mem_of_getElem? (i := 1156) (by decide +kernel)⟩
theorem lw_p90 : lw_okq (⟨"TilesOfLawModel", "foundMany", "(I)I"⟩, 41) := ⟨⟨by decide +kernel, by decide +kernel⟩, List.mem_of_getElem? (i := 695) (by decide +kernel), List.mem_of_getElem? (i := 1159) (by decide +kernel), List.mem_of_getElem? (i := 1160) (by decide +kernel)⟩
theorem lw_p91 : lw_okq (⟨"TilesOfLawModel", "laysBack", "()V"⟩, 41) := ⟨⟨by decide +kernel, by decide +kernel⟩, List.mem_of_getElem? (i := 695) (by decide +kernel), List.mem_of_getElem? (i := 1163) (by decide +kernel), List.mem_of_getElem? (i := 1164) (by decide +kernel)⟩
theorem lw_p92 : lw_okq (⟨"TilesOfLawModel", "foundBehind", "(II)I"⟩, 41) := ⟨⟨by decide +kernel, by decide +kernel⟩, List.mem_of_getElem? (i := 695) (by decide +kernel), List.mem_of_getElem? (i := 1171) (by decide +kernel), List.mem_of_getElem? (i := 1172) (by decide +kernel)⟩
theorem lw_p93 : lw_okq (⟨"TilesOfLawModel", "areTwo", "(II)Z"⟩, 41) := ⟨⟨by decide +kernel, by decide +kernel⟩, List.mem_of_getElem? (i := 695) (by decide +kernel), List.mem_of_getElem? (i := 1179) (by decide +kernel), List.mem_of_getElem? (i := 1180) (by decide +kernel)⟩
theorem lw_p94 : lw_okq (⟨"TilesOfLawModel", "reachedBy", "(II)J"⟩, 41) := ⟨⟨by decide +kernel, by decide +kernel⟩, List.mem_of_getElem? (i := 695) (by decide +kernel), List.mem_of_getElem? (i := 1187) (by decide +kernel), List.mem_of_getElem? (i := 1188) (by decide +kernel)⟩
theorem lw_p95 : lw_okq (⟨"TilesOfLawModel", "tries", "(II)V"⟩, 41) := ⟨⟨by decide +kernel, by decide +kernel⟩, List.mem_of_getElem? (i := 695) (by decide +kernel), List.mem_of_getElem? (i := 1200) (by decide +kernel), List.mem_of_getElem? (i := 1201) (by decide +kernel)⟩
def lw_privs_6 : List (MethodName × Nat) := [(⟨"TilesOfLawModel", "both1", "()I"⟩, 41), (⟨"TilesOfLawModel", "tiresOf", "(I)I"⟩, 41), (⟨"TilesOfLawModel", "restsOf", "(I)I"⟩, 41), (⟨"TilesOfLawModel", "foundOf", "(I)I"⟩, 41), (⟨"TilesOfLawModel", "lays", "(III)V"⟩, 41), (⟨"TilesOfLawModel", "stoodOn", "()J"⟩, 41), (⟨"TilesOfLawModel", "leapFrom", "(III)I"⟩, 41), (⟨"TilesOfLawModel", "passes", "()I"⟩, 41), (⟨"TilesOfLawModel", "laysAside", "()V"⟩, 41), (⟨"TilesOfLawModel", "goes", "(I)V"⟩, 41), (⟨"TilesOfLawModel", "foundMany", "(I)I"⟩, 41), (⟨"TilesOfLawModel", "laysBack", "()V"⟩, 41), (⟨"TilesOfLawModel", "foundBehind", "(II)I"⟩, 41), (⟨"TilesOfLawModel", "areTwo", "(II)Z"⟩, 41), (⟨"TilesOfLawModel", "reachedBy", "(II)J"⟩, 41), (⟨"TilesOfLawModel", "tries", "(II)V"⟩, 41)]
theorem lw_r6 : ∀ q ∈ lw_privs_6, lw_okq q := List.forall_mem_cons.mpr ⟨lw_p80, List.forall_mem_cons.mpr ⟨lw_p81, List.forall_mem_cons.mpr ⟨lw_p82, List.forall_mem_cons.mpr ⟨lw_p83, List.forall_mem_cons.mpr ⟨lw_p84, List.forall_mem_cons.mpr ⟨lw_p85, List.forall_mem_cons.mpr ⟨lw_p86, List.forall_mem_cons.mpr ⟨lw_p87, List.forall_mem_cons.mpr ⟨lw_p88, List.forall_mem_cons.mpr ⟨lw_p89, List.forall_mem_cons.mpr ⟨lw_p90, List.forall_mem_cons.mpr ⟨lw_p91, List.forall_mem_cons.mpr ⟨lw_p92, List.forall_mem_cons.mpr ⟨lw_p93, List.forall_mem_cons.mpr ⟨lw_p94, List.forall_mem_cons.mpr ⟨lw_p95, fun _ h => absurd h List.not_mem_nil⟩⟩⟩⟩⟩⟩⟩⟩⟩⟩⟩⟩⟩⟩⟩⟩
theorem lw_p96 : lw_okq (⟨"TilesOfLawModel", "triesTile", "(IIII)V"⟩, 41) := ⟨⟨by decide +kernel, by decide +kernel⟩, List.mem_of_getElem? (i := 695) (by decide +kernel), List.mem_of_getElem? (i := 1204) (by decide +kernel), List.mem_of_getElem? (i := 1205) (by decide +kernel)⟩
theorem lw_p97 : lw_okq (⟨"TilesOfLawModel", "firstOther", "(II)I"⟩, 41) := ⟨⟨by decide +kernel, by decide +kernel⟩, List.mem_of_getElem? (i := 695) (by decide +kernel), List.mem_of_getElem? (i := 1223) (by decide +kernel), List.mem_of_getElem? (i := 1224) (by decide +kernel)⟩
theorem lw_p98 : lw_okq (⟨"TilesOfLawModel", "likeSet", "(I)I"⟩, 41) := ⟨⟨by decide +kernel, by decide +kernel⟩, List.mem_of_getElem? (i := 695) (by decide +kernel), List.mem_of_getElem? (i := 1227) (by decide +kernel), List.mem_of_getElem? (i := 1228) (by decide +kernel)⟩
theorem lw_p99 : lw_okq (⟨"TilesOfLawModel", "onDrawn", "(III)I"⟩, 41) := ⟨⟨by decide +kernel, by decide +kernel⟩, List.mem_of_getElem? (i := 695) (by decide +kernel), List.mem_of_getElem? (i := 1247) (by decide +kernel), List.mem_of_getElem? (i := 1248) (by decide +kernel)⟩
def lw_privs_7 : List (MethodName × Nat) := [(⟨"TilesOfLawModel", "triesTile", "(IIII)V"⟩, 41), (⟨"TilesOfLawModel", "firstOther", "(II)I"⟩, 41), (⟨"TilesOfLawModel", "likeSet", "(I)I"⟩, 41), (⟨"TilesOfLawModel", "onDrawn", "(III)I"⟩, 41)]
theorem lw_r7 : ∀ q ∈ lw_privs_7, lw_okq q := List.forall_mem_cons.mpr ⟨lw_p96, List.forall_mem_cons.mpr ⟨lw_p97, List.forall_mem_cons.mpr ⟨lw_p98, List.forall_mem_cons.mpr ⟨lw_p99, fun _ h => absurd h List.not_mem_nil⟩⟩⟩⟩
def lw_privs : List (MethodName × Nat) := lw_privs_1 ++ (lw_privs_2 ++ (lw_privs_3 ++ (lw_privs_4 ++ (lw_privs_5 ++ (lw_privs_6 ++ (lw_privs_7))))))
def lw_tbl : List Cond := k2_sels lw_privs ++ tables_1
theorem lw_privs_ok : ∀ q ∈ lw_privs, lw_okq q := by
  show ∀ q ∈ lw_privs_1 ++ (lw_privs_2 ++ (lw_privs_3 ++ (lw_privs_4 ++ (lw_privs_5 ++ (lw_privs_6 ++ (lw_privs_7)))))), lw_okq q
  exact List.forall_mem_append.mpr ⟨lw_r1, List.forall_mem_append.mpr ⟨lw_r2, List.forall_mem_append.mpr ⟨lw_r3, List.forall_mem_append.mpr ⟨lw_r4, List.forall_mem_append.mpr ⟨lw_r5, List.forall_mem_append.mpr ⟨lw_r6, lw_r7⟩⟩⟩⟩⟩⟩

/-! ===== BEGIN words of one list among another's, by their places ===== -/
theorem goodIn_r {big : List Cond} (ws : List Cond) (ps : List Nat) (hp : ws = ps.filterMap (fun i => big[i]?)) (h : ws.all goodWord = true) : GoodIn big ws := by
  intro w hw
  have h1 := List.all_eq_true.mp h w hw
  rw [hp] at hw
  obtain ⟨i, -, hi⟩ := List.mem_filterMap.mp hw
  have hm : w ∈ big := by first | exact List.mem_of_getElem? hi | exact List.getElem?_mem hi
  exact ⟨hm, good_of_word h1⟩
theorem goodIn_app {big a b : List Cond} (ha : GoodIn big a) (hb : GoodIn big b) : GoodIn big (a ++ b) := fun w h => (List.mem_append.mp h).elim (ha w) (hb w)
theorem goodIn_ca {big a b : List Cond} {c : Cond} (ha : GoodIn big (c :: a)) (hb : GoodIn big b) : GoodIn big (c :: (a ++ b)) := fun w h => (List.mem_cons.mp h).elim (fun e => ha w (List.mem_cons.mpr (Or.inl e))) (fun h => (List.mem_append.mp h).elim (fun h => ha w (List.mem_cons.mpr (Or.inr h))) (hb w))
theorem goodIn_sub {big ws : List Cond} (hm : ∀ w ∈ ws, w ∈ big) (h : ws.all goodWord = true) : GoodIn big ws := fun w hw => ⟨hm w hw, good_of_word (List.all_eq_true.mp h w hw)⟩
/-! ===== END ===== -/

/-! ===== BEGIN printed: names, fields, word lists, decode rows ===== -/
def RX0 : String := "TilesOfLaw$Floor"
def TX0 : u_T := fun k => match k with
  | 0 => ("TilesOfLaw$Floor", "red", "J", false)
  | 1 => ("TilesOfLaw$Floor", "hollow", "J", false)
  | 2 => ("TilesOfLaw$Floor", "minute", "I", false)
  | 3 => ("TilesOfLaw$Floor", "parties", "I", false)
  | 4 => ("TilesOfLaw$Floor", "rule", "I", false)
  | 5 => ("TilesOfLaw$Floor", "kind", "[I", true)
  | 6 => ("TilesOfLaw$Floor", "number", "[I", true)
  | 7 => ("TilesOfLaw$Floor", "on", "[I", true)
  | _ => ("TilesOfLaw$Floor", "weary", "[I", true)
def tyX0 : Nat → FieldType := fun k => match k with
  | 0 => .long
  | 1 => .long
  | 2 => .int
  | 3 => .int
  | 4 => .int
  | 5 => .array .int
  | 6 => .array .int
  | 7 => .array .int
  | _ => .array .int
abbrev wsX00 : List Cond := u_ws RX0 TX0 9
theorem nmX0 : ∀ a, a < 9 → ∀ b, b < 9 → a ≠ b → (TX0 a).2.1 ≠ (TX0 b).2.1 := by decide +kernel
theorem tyX0_ok : ∀ k, k < 9 → parseFieldDescriptor (TX0 k).2.2.1 = some (tyX0 k) := by decide +kernel
abbrev cX0_init : ByteArray := prog_2_method_1_code
def yX0_init : MethodName := ⟨RX0, "<init>", "()V"⟩
abbrev cX0_become : ByteArray := prog_2_method_2_code
def yX0_become : MethodName := ⟨RX0, "become", "(LTilesOfLaw$Floor;)V"⟩
abbrev cX0_isRed : ByteArray := prog_2_method_3_code
def yX0_isRed : MethodName := ⟨RX0, "isRed", "(I)Z"⟩
abbrev cX0_isHollow : ByteArray := prog_2_method_4_code
def yX0_isHollow : MethodName := ⟨RX0, "isHollow", "(I)Z"⟩
abbrev cX0_whoIsOn : ByteArray := prog_2_method_5_code
def yX0_whoIsOn : MethodName := ⟨RX0, "whoIsOn", "(I)I"⟩
abbrev cX0_stoodOn : ByteArray := prog_2_method_6_code
def yX0_stoodOn : MethodName := ⟨RX0, "stoodOn", "()J"⟩
abbrev cX0_isFoundBy : ByteArray := prog_2_method_7_code
def yX0_isFoundBy : MethodName := ⟨RX0, "isFoundBy", "(I)I"⟩
abbrev cX0_foundOf : ByteArray := prog_2_method_8_code
def yX0_foundOf : MethodName := ⟨RX0, "foundOf", "(I)I"⟩
abbrev cX0_howManyFound : ByteArray := prog_2_method_9_code
def yX0_howManyFound : MethodName := ⟨RX0, "howManyFound", "(I)I"⟩
abbrev cX0_landing : ByteArray := prog_2_method_10_code
def yX0_landing : MethodName := ⟨RX0, "landing", "(III)I"⟩
abbrev cX0_leapsBy : ByteArray := prog_2_method_11_code
def yX0_leapsBy : MethodName := ⟨RX0, "leapsBy", "(II)Z"⟩
abbrev cX0_aLeapFurther : ByteArray := prog_2_method_12_code
def yX0_aLeapFurther : MethodName := ⟨RX0, "aLeapFurther", "(IJ)J"⟩
abbrev cX0_whereDrawn : ByteArray := prog_2_method_13_code
def yX0_whereDrawn : MethodName := ⟨RX0, "whereDrawn", "(III)I"⟩
abbrev cX0_tires : ByteArray := prog_2_method_14_code
def yX0_tires : MethodName := ⟨RX0, "tires", "(II)I"⟩
abbrev cX0_rests : ByteArray := prog_2_method_15_code
def yX0_rests : MethodName := ⟨RX0, "rests", "(II)I"⟩
abbrev cX0_named : ByteArray := prog_2_method_16_code
def yX0_named : MethodName := ⟨RX0, "named", "(II)I"⟩
def RX1 : String := "TilesOfLaw$Law"
def TX1 : u_T := fun k => match k with
  | 0 => ("TilesOfLaw$Law", "texts", "[LTilesOfLaw$Text;", true)
  | 1 => ("TilesOfLaw$Law", "stack", "[I", true)
  | _ => ("TilesOfLaw$Law", "size", "I", false)
def tyX1 : Nat → FieldType := fun k => match k with
  | 0 => .array (.object "TilesOfLaw$Text")
  | 1 => .array .int
  | _ => .int
abbrev wsX10 : List Cond := u_ws RX1 TX1 3
theorem nmX1 : ∀ a, a < 3 → ∀ b, b < 3 → a ≠ b → (TX1 a).2.1 ≠ (TX1 b).2.1 := by decide +kernel
theorem tyX1_ok : ∀ k, k < 3 → parseFieldDescriptor (TX1 k).2.2.1 = some (tyX1 k) := by decide +kernel
abbrev cX1_init : ByteArray := prog_3_method_1_code
def yX1_init : MethodName := ⟨RX1, "<init>", "()V"⟩
abbrev cX1_add : ByteArray := prog_3_method_2_code
def yX1_add : MethodName := ⟨RX1, "add", "(LTilesOfLaw$Text;)I"⟩
abbrev cX1_passMinutes : ByteArray := prog_3_method_3_code
def yX1_passMinutes : MethodName := ⟨RX1, "passMinutes", "(LTilesOfLaw$Floor;II)I"⟩
abbrev cX1_passOne : ByteArray := prog_3_method_4_code
def yX1_passOne : MethodName := ⟨RX1, "passOne", "(LTilesOfLaw$Floor;IZ)Z"⟩
abbrev cX1_wayOf : ByteArray := prog_3_method_5_code
def yX1_wayOf : MethodName := ⟨RX1, "wayOf", "(LTilesOfLaw$Floor;I)I"⟩
abbrev cX1_tiresOf : ByteArray := prog_3_method_6_code
def yX1_tiresOf : MethodName := ⟨RX1, "tiresOf", "(LTilesOfLaw$Floor;I)I"⟩
abbrev cX1_restsOf : ByteArray := prog_3_method_7_code
def yX1_restsOf : MethodName := ⟨RX1, "restsOf", "(LTilesOfLaw$Floor;I)I"⟩
abbrev cX1_value : ByteArray := prog_3_method_8_code
def yX1_value : MethodName := ⟨RX1, "value", "(LTilesOfLaw$Floor;II)I"⟩
abbrev cX1_joined : ByteArray := prog_3_method_9_code
def yX1_joined : MethodName := ⟨RX1, "joined", "(III)I"⟩
def RX2 : String := "TilesOfLaw$Reader"
def TX2 : u_T := fun k => match k with
  | 0 => ("TilesOfLaw$Reader", "tape", "[I", true)
  | 1 => ("TilesOfLaw$Reader", "code", "[I", true)
  | 2 => ("TilesOfLaw$Reader", "size", "I", false)
  | 3 => ("TilesOfLaw$Reader", "fault", "I", false)
  | 4 => ("TilesOfLaw$Reader", "token", "I", false)
  | 5 => ("TilesOfLaw$Reader", "tokenAt", "I", false)
  | 6 => ("TilesOfLaw$Reader", "next", "I", false)
  | 7 => ("TilesOfLaw$Reader", "number", "I", false)
  | _ => ("TilesOfLaw$Reader", "written", "I", false)
def tyX2 : Nat → FieldType := fun k => match k with
  | 0 => .array .int
  | 1 => .array .int
  | 2 => .int
  | 3 => .int
  | 4 => .int
  | 5 => .int
  | 6 => .int
  | 7 => .int
  | _ => .int
abbrev wsX20 : List Cond := u_ws RX2 TX2 9
theorem nmX2 : ∀ a, a < 9 → ∀ b, b < 9 → a ≠ b → (TX2 a).2.1 ≠ (TX2 b).2.1 := by decide +kernel
theorem tyX2_ok : ∀ k, k < 9 → parseFieldDescriptor (TX2 k).2.2.1 = some (tyX2 k) := by decide +kernel
abbrev cX2_init : ByteArray := prog_4_method_1_code
def yX2_init : MethodName := ⟨RX2, "<init>", "()V"⟩
abbrev cX2_takeIn : ByteArray := prog_4_method_2_code
def yX2_takeIn : MethodName := ⟨RX2, "takeIn", "(I)Z"⟩
abbrev cX2_clear : ByteArray := prog_4_method_3_code
def yX2_clear : MethodName := ⟨RX2, "clear", "()V"⟩
abbrev cX2_readText : ByteArray := prog_4_method_4_code
def yX2_readText : MethodName := ⟨RX2, "readText", "()LTilesOfLaw$Text;"⟩
abbrev cX2_readPart : ByteArray := prog_4_method_5_code
def yX2_readPart : MethodName := ⟨RX2, "readPart", "(I)I"⟩
abbrev cX2_readE : ByteArray := prog_4_method_6_code
def yX2_readE : MethodName := ⟨RX2, "readE", "(I)V"⟩
abbrev cX2_readAnd : ByteArray := prog_4_method_7_code
def yX2_readAnd : MethodName := ⟨RX2, "readAnd", "(I)V"⟩
abbrev cX2_readNot : ByteArray := prog_4_method_8_code
def yX2_readNot : MethodName := ⟨RX2, "readNot", "(I)V"⟩
abbrev cX2_readSum : ByteArray := prog_4_method_9_code
def yX2_readSum : MethodName := ⟨RX2, "readSum", "(I)V"⟩
abbrev cX2_readTerm : ByteArray := prog_4_method_10_code
def yX2_readTerm : MethodName := ⟨RX2, "readTerm", "(I)V"⟩
abbrev cX2_readOne : ByteArray := prog_4_method_11_code
def yX2_readOne : MethodName := ⟨RX2, "readOne", "(I)V"⟩
abbrev cX2_need : ByteArray := prog_4_method_12_code
def yX2_need : MethodName := ⟨RX2, "need", "(I)V"⟩
abbrev cX2_refuse : ByteArray := prog_4_method_13_code
def yX2_refuse : MethodName := ⟨RX2, "refuse", "()V"⟩
abbrev cX2_write : ByteArray := prog_4_method_14_code
def yX2_write : MethodName := ⟨RX2, "write", "(I)V"⟩
abbrev cX2_advance : ByteArray := prog_4_method_15_code
def yX2_advance : MethodName := ⟨RX2, "advance", "()V"⟩
abbrev cX2_readDigits : ByteArray := prog_4_method_16_code
def yX2_readDigits : MethodName := ⟨RX2, "readDigits", "()V"⟩
abbrev cX2_wordRead : ByteArray := prog_4_method_17_code
def yX2_wordRead : MethodName := ⟨RX2, "wordRead", "()I"⟩
abbrev cX2_spells : ByteArray := prog_4_method_18_code
def yX2_spells : MethodName := ⟨RX2, "spells", "(Ljava/lang/String;)Z"⟩
abbrev cX2_isLetter : ByteArray := prog_4_method_19_code
def yX2_isLetter : MethodName := ⟨RX2, "isLetter", "(I)Z"⟩
abbrev cX2_isDigit : ByteArray := prog_4_method_20_code
def yX2_isDigit : MethodName := ⟨RX2, "isDigit", "(I)Z"⟩
abbrev cX2_isSign : ByteArray := prog_4_method_21_code
def yX2_isSign : MethodName := ⟨RX2, "isSign", "(I)Z"⟩
def RX3 : String := "TilesOfLaw$Sheet"
def TX3 : u_T := fun k => match k with
  | 0 => ("TilesOfLaw$Sheet", "items", "[I", true)
  | 1 => ("TilesOfLaw$Sheet", "sort", "I", false)
  | _ => ("TilesOfLaw$Sheet", "size", "I", false)
def tyX3 : Nat → FieldType := fun k => match k with
  | 0 => .array .int
  | 1 => .int
  | _ => .int
abbrev wsX30 : List Cond := u_ws RX3 TX3 3
theorem nmX3 : ∀ a, a < 3 → ∀ b, b < 3 → a ≠ b → (TX3 a).2.1 ≠ (TX3 b).2.1 := by decide +kernel
theorem tyX3_ok : ∀ k, k < 3 → parseFieldDescriptor (TX3 k).2.2.1 = some (tyX3 k) := by decide +kernel
abbrev cX3_init : ByteArray := prog_5_method_1_code
def yX3_init : MethodName := ⟨RX3, "<init>", "()V"⟩
abbrev cX3_become : ByteArray := prog_5_method_2_code
def yX3_become : MethodName := ⟨RX3, "become", "(II)V"⟩
abbrev cX3_has : ByteArray := prog_5_method_3_code
def yX3_has : MethodName := ⟨RX3, "has", "(II)Z"⟩
abbrev cX3_put : ByteArray := prog_5_method_4_code
def yX3_put : MethodName := ⟨RX3, "put", "(II)Z"⟩
def RX4 : String := "TilesOfLaw$Text"
def TX4 : u_T := fun k => match k with
  | 0 => ("TilesOfLaw$Text", "code", "[I", true)
  | 1 => ("TilesOfLaw$Text", "turnsEnd", "I", true)
  | _ => ("TilesOfLaw$Text", "tiresEnd", "I", true)
def tyX4 : Nat → FieldType := fun k => match k with
  | 0 => .array .int
  | 1 => .int
  | _ => .int
abbrev wsX40 : List Cond := u_ws RX4 TX4 3
theorem nmX4 : ∀ a, a < 3 → ∀ b, b < 3 → a ≠ b → (TX4 a).2.1 ≠ (TX4 b).2.1 := by decide +kernel
theorem tyX4_ok : ∀ k, k < 3 → parseFieldDescriptor (TX4 k).2.2.1 = some (tyX4 k) := by decide +kernel
abbrev cX4_init : ByteArray := prog_6_method_1_code
def yX4_init : MethodName := ⟨RX4, "<init>", "([III)V"⟩
abbrev cX4_start : ByteArray := prog_6_method_2_code
def yX4_start : MethodName := ⟨RX4, "start", "(I)I"⟩
abbrev cX4_end : ByteArray := prog_6_method_3_code
def yX4_end : MethodName := ⟨RX4, "end", "(I)I"⟩
def RX5 : String := "TilesOfLaw"
def TX5 : u_T := fun k => match k with
  | 0 => ("TilesOfLaw", "now", "LTilesOfLaw$Floor;", true)
  | 1 => ("TilesOfLaw", "thought", "LTilesOfLaw$Floor;", true)
  | 2 => ("TilesOfLaw", "later", "LTilesOfLaw$Floor;", true)
  | 3 => ("TilesOfLaw", "kept", "LTilesOfLaw$Floor;", true)
  | 4 => ("TilesOfLaw", "law", "LTilesOfLaw$Law;", true)
  | 5 => ("TilesOfLaw", "reader", "LTilesOfLaw$Reader;", true)
  | 6 => ("TilesOfLaw", "sheets", "[LTilesOfLaw$Sheet;", true)
  | _ => ("TilesOfLaw", "hasImage", "Z", false)
def tyX5 : Nat → FieldType := fun k => match k with
  | 0 => .object "TilesOfLaw$Floor"
  | 1 => .object "TilesOfLaw$Floor"
  | 2 => .object "TilesOfLaw$Floor"
  | 3 => .object "TilesOfLaw$Floor"
  | 4 => .object "TilesOfLaw$Law"
  | 5 => .object "TilesOfLaw$Reader"
  | 6 => .array (.object "TilesOfLaw$Sheet")
  | _ => .boolean
abbrev wsX50 : List Cond := u_ws RX5 TX5 8
theorem nmX5 : ∀ a, a < 8 → ∀ b, b < 8 → a ≠ b → (TX5 a).2.1 ≠ (TX5 b).2.1 := by decide +kernel
theorem tyX5_ok : ∀ k, k < 8 → parseFieldDescriptor (TX5 k).2.2.1 = some (tyX5 k) := by decide +kernel
abbrev cX5_init : ByteArray := prog_1_method_1_code
def yX5_init : MethodName := ⟨RX5, "<init>", "()V"⟩
abbrev cX5_set : ByteArray := prog_1_method_2_code
def yX5_set : MethodName := ⟨RX5, "set", "(III)I"⟩
abbrev cX5_canSet : ByteArray := prog_1_method_3_code
def yX5_canSet : MethodName := ⟨RX5, "canSet", "(III)Z"⟩
abbrev cX5_party : ByteArray := prog_1_method_4_code
def yX5_party : MethodName := ⟨RX5, "party", "(III)I"⟩
abbrev cX5_told : ByteArray := prog_1_method_5_code
def yX5_told : MethodName := ⟨RX5, "told", "(II)I"⟩
abbrev cX5_toldOfTile : ByteArray := prog_1_method_6_code
def yX5_toldOfTile : MethodName := ⟨RX5, "toldOfTile", "(II)I"⟩
abbrev cX5_toldOfParty : ByteArray := prog_1_method_7_code
def yX5_toldOfParty : MethodName := ⟨RX5, "toldOfParty", "(II)I"⟩
abbrev cX5_leap : ByteArray := prog_1_method_8_code
def yX5_leap : MethodName := ⟨RX5, "leap", "(II)I"⟩
abbrev cX5_floor : ByteArray := prog_1_method_9_code
def yX5_floor : MethodName := ⟨RX5, "floor", "(I)J"⟩
abbrev cX5_feed : ByteArray := prog_1_method_10_code
def yX5_feed : MethodName := ⟨RX5, "feed", "(I)I"⟩
abbrev cX5_text : ByteArray := prog_1_method_11_code
def yX5_text : MethodName := ⟨RX5, "text", "()I"⟩
abbrev cX5_force : ByteArray := prog_1_method_12_code
def yX5_force : MethodName := ⟨RX5, "force", "(I)I"⟩
abbrev cX5_minute : ByteArray := prog_1_method_13_code
def yX5_minute : MethodName := ⟨RX5, "minute", "()I"⟩
abbrev cX5_run : ByteArray := prog_1_method_14_code
def yX5_run : MethodName := ⟨RX5, "run", "(III)I"⟩
abbrev cX5_call : ByteArray := prog_1_method_15_code
def yX5_call : MethodName := ⟨RX5, "call", "(III)I"⟩
abbrev cX5_meet : ByteArray := prog_1_method_16_code
def yX5_meet : MethodName := ⟨RX5, "meet", "(II)I"⟩
abbrev cX5_reached : ByteArray := prog_1_method_17_code
def yX5_reached : MethodName := ⟨RX5, "reached", "(II)J"⟩
abbrev cX5_fewest : ByteArray := prog_1_method_18_code
def yX5_fewest : MethodName := ⟨RX5, "fewest", "(II)I"⟩
abbrev cX5_best : ByteArray := prog_1_method_19_code
def yX5_best : MethodName := ⟨RX5, "best", "(III)I"⟩
abbrev cX5_foundWithOneStill : ByteArray := prog_1_method_20_code
def yX5_foundWithOneStill : MethodName := ⟨RX5, "foundWithOneStill", "(III)I"⟩
abbrev cX5_foundWithRed : ByteArray := prog_1_method_21_code
def yX5_foundWithRed : MethodName := ⟨RX5, "foundWithRed", "(II)I"⟩
abbrev cX5_foundWithHollow : ByteArray := prog_1_method_22_code
def yX5_foundWithHollow : MethodName := ⟨RX5, "foundWithHollow", "(III)I"⟩
abbrev cX5_mean : ByteArray := prog_1_method_23_code
def yX5_mean : MethodName := ⟨RX5, "mean", "(I)J"⟩
abbrev cX5_tells : ByteArray := prog_1_method_24_code
def yX5_tells : MethodName := ⟨RX5, "tells", "(III)I"⟩
abbrev cX5_wearyTold : ByteArray := prog_1_method_25_code
def yX5_wearyTold : MethodName := ⟨RX5, "wearyTold", "(LTilesOfLaw$Sheet;II)I"⟩
abbrev cX5_bitsTold : ByteArray := prog_1_method_26_code
def yX5_bitsTold : MethodName := ⟨RX5, "bitsTold", "(LTilesOfLaw$Sheet;II)I"⟩
abbrev cX5_firstOtherwise : ByteArray := prog_1_method_27_code
def yX5_firstOtherwise : MethodName := ⟨RX5, "firstOtherwise", "(LTilesOfLaw$Sheet;I)I"⟩
abbrev cX5_stood : ByteArray := prog_1_method_28_code
def yX5_stood : MethodName := ⟨RX5, "stood", "(II)J"⟩
abbrev cX5_film : ByteArray := prog_1_method_29_code
def yX5_film : MethodName := ⟨RX5, "film", "(III)I"⟩
abbrev cX5_drawn : ByteArray := prog_1_method_30_code
def yX5_drawn : MethodName := ⟨RX5, "drawn", "(III)I"⟩
abbrev cX5_chance : ByteArray := prog_1_method_31_code
def yX5_chance : MethodName := ⟨RX5, "chance", "(IIII)J"⟩
abbrev cX5_image : ByteArray := prog_1_method_32_code
def yX5_image : MethodName := ⟨RX5, "image", "()I"⟩
abbrev cX5_back : ByteArray := prog_1_method_33_code
def yX5_back : MethodName := ⟨RX5, "back", "()I"⟩
abbrev cX5_count : ByteArray := prog_1_method_34_code
def yX5_count : MethodName := ⟨RX5, "count", "(I)I"⟩
abbrev cX5_sheet : ByteArray := prog_1_method_35_code
def yX5_sheet : MethodName := ⟨RX5, "sheet", "(III)I"⟩
abbrev cX5_cell : ByteArray := prog_1_method_36_code
def yX5_cell : MethodName := ⟨RX5, "cell", "(III)I"⟩
abbrev cX5_copy : ByteArray := prog_1_method_37_code
def yX5_copy : MethodName := ⟨RX5, "copy", "(IIIII)I"⟩
abbrev cX5_suits : ByteArray := prog_1_method_38_code
def yX5_suits : MethodName := ⟨RX5, "suits", "(IIII)I"⟩
abbrev cX5_taken : ByteArray := prog_1_method_39_code
def yX5_taken : MethodName := ⟨RX5, "taken", "(II)I"⟩
abbrev cX5_isWithin : ByteArray := prog_1_method_40_code
def yX5_isWithin : MethodName := ⟨RX5, "isWithin", "(II)Z"⟩
abbrev cX5_isTile : ByteArray := prog_1_method_41_code
def yX5_isTile : MethodName := ⟨RX5, "isTile", "(I)Z"⟩
abbrev cX5_isKind : ByteArray := prog_1_method_42_code
def yX5_isKind : MethodName := ⟨RX5, "isKind", "(I)Z"⟩
abbrev cX5_isIn : ByteArray := prog_1_method_43_code
def yX5_isIn : MethodName := ⟨RX5, "isIn", "(JI)Z"⟩
abbrev cX5_isParty : ByteArray := prog_1_method_44_code
def yX5_isParty : MethodName := ⟨RX5, "isParty", "(I)Z"⟩
abbrev cX5_isText : ByteArray := prog_1_method_45_code
def yX5_isText : MethodName := ⟨RX5, "isText", "(I)Z"⟩
abbrev cX5_sheetAt : ByteArray := prog_1_method_46_code
def yX5_sheetAt : MethodName := ⟨RX5, "sheetAt", "(I)LTilesOfLaw$Sheet;"⟩
abbrev cX5_bounded : ByteArray := prog_1_method_47_code
def yX5_bounded : MethodName := ⟨RX5, "bounded", "(III)I"⟩
abbrev cX5_inLowestTerms : ByteArray := prog_1_method_48_code
def yX5_inLowestTerms : MethodName := ⟨RX5, "inLowestTerms", "(III)J"⟩
def RX6 : String := "TilesOfLawModel"
def TX6 : u_T := fun k => match k with
  | 0 => ("TilesOfLawModel", "thrown", "I", false)
  | 1 => ("TilesOfLawModel", "texts", "[I", true)
  | 2 => ("TilesOfLawModel", "textSize", "[I", true)
  | 3 => ("TilesOfLawModel", "textCount", "I", false)
  | 4 => ("TilesOfLawModel", "rule", "I", false)
  | 5 => ("TilesOfLawModel", "tape", "[I", true)
  | 6 => ("TilesOfLawModel", "taped", "I", false)
  | 7 => ("TilesOfLawModel", "minuteNow", "I", false)
  | 8 => ("TilesOfLawModel", "red", "J", false)
  | 9 => ("TilesOfLawModel", "hollow", "J", false)
  | 10 => ("TilesOfLawModel", "rows", "[I", true)
  | 11 => ("TilesOfLawModel", "many", "I", false)
  | 12 => ("TilesOfLawModel", "standing", "I", false)
  | 13 => ("TilesOfLawModel", "ofWeary", "I", false)
  | 14 => ("TilesOfLawModel", "ofColumn", "I", false)
  | 15 => ("TilesOfLawModel", "ofRow", "I", false)
  | 16 => ("TilesOfLawModel", "ofNumber", "I", false)
  | 17 => ("TilesOfLawModel", "ofMinute", "I", false)
  | 18 => ("TilesOfLawModel", "ofWorn", "I", false)
  | 19 => ("TilesOfLawModel", "from", "I", false)
  | 20 => ("TilesOfLawModel", "size", "I", false)
  | 21 => ("TilesOfLawModel", "here", "I", false)
  | 22 => ("TilesOfLawModel", "token", "I", false)
  | 23 => ("TilesOfLawModel", "tokenAt", "I", false)
  | 24 => ("TilesOfLawModel", "tokenWorth", "J", false)
  | 25 => ("TilesOfLawModel", "open", "I", false)
  | 26 => ("TilesOfLawModel", "bad", "Z", false)
  | 27 => ("TilesOfLawModel", "fault", "I", false)
  | 28 => ("TilesOfLawModel", "was", "[I", true)
  | 29 => ("TilesOfLawModel", "bestFound", "I", false)
  | 30 => ("TilesOfLawModel", "bestMany", "I", false)
  | 31 => ("TilesOfLawModel", "rowsKept", "[I", true)
  | 32 => ("TilesOfLawModel", "manyKept", "I", false)
  | 33 => ("TilesOfLawModel", "minuteKept", "I", false)
  | 34 => ("TilesOfLawModel", "ruleKept", "I", false)
  | 35 => ("TilesOfLawModel", "redKept", "J", false)
  | 36 => ("TilesOfLawModel", "hollowKept", "J", false)
  | 37 => ("TilesOfLawModel", "isThere", "[Z", true)
  | 38 => ("TilesOfLawModel", "sorts", "[I", true)
  | 39 => ("TilesOfLawModel", "sheetSize", "[I", true)
  | _ => ("TilesOfLawModel", "items", "[I", true)
def tyX6 : Nat → FieldType := fun k => match k with
  | 0 => .int
  | 1 => .array .int
  | 2 => .array .int
  | 3 => .int
  | 4 => .int
  | 5 => .array .int
  | 6 => .int
  | 7 => .int
  | 8 => .long
  | 9 => .long
  | 10 => .array .int
  | 11 => .int
  | 12 => .int
  | 13 => .int
  | 14 => .int
  | 15 => .int
  | 16 => .int
  | 17 => .int
  | 18 => .int
  | 19 => .int
  | 20 => .int
  | 21 => .int
  | 22 => .int
  | 23 => .int
  | 24 => .long
  | 25 => .int
  | 26 => .boolean
  | 27 => .int
  | 28 => .array .int
  | 29 => .int
  | 30 => .int
  | 31 => .array .int
  | 32 => .int
  | 33 => .int
  | 34 => .int
  | 35 => .long
  | 36 => .long
  | 37 => .array .boolean
  | 38 => .array .int
  | 39 => .array .int
  | _ => .array .int
abbrev wsX60 : List Cond := u_ws RX6 TX6 41
theorem nmX6 : ∀ a, a < 41 → ∀ b, b < 41 → a ≠ b → (TX6 a).2.1 ≠ (TX6 b).2.1 := by decide +kernel
theorem tyX6_ok : ∀ k, k < 41 → parseFieldDescriptor (TX6 k).2.2.1 = some (tyX6 k) := by decide +kernel
abbrev cX6_in : ByteArray := prog_8_method_2_code
def yX6_in : MethodName := ⟨RX6, "in", "(JJJ)Z"⟩
abbrev cX6_within : ByteArray := prog_8_method_3_code
def yX6_within : MethodName := ⟨RX6, "within", "(III)I"⟩
abbrev cX6_init : ByteArray := prog_8_method_4_code
def yX6_init : MethodName := ⟨RX6, "<init>", "()V"⟩
abbrev cX6_spell : ByteArray := prog_8_method_5_code
def yX6_spell : MethodName := ⟨RX6, "spell", "(IIIIIIIII)V"⟩
abbrev cX6_isOne : ByteArray := prog_8_method_6_code
def yX6_isOne : MethodName := ⟨RX6, "isOne", "(I)Z"⟩
abbrev cX6_areTwo : ByteArray := prog_8_method_7_code
def yX6_areTwo : MethodName := ⟨RX6, "areTwo", "(II)Z"⟩
abbrev cX6_isTile : ByteArray := prog_8_method_8_code
def yX6_isTile : MethodName := ⟨RX6, "isTile", "(I)Z"⟩
abbrev cX6_has : ByteArray := prog_8_method_9_code
def yX6_has : MethodName := ⟨RX6, "has", "(JI)Z"⟩
abbrev cX6_bitsOf : ByteArray := prog_8_method_10_code
def yX6_bitsOf : MethodName := ⟨RX6, "bitsOf", "(J)I"⟩
abbrev cX6_isOf : ByteArray := prog_8_method_11_code
def yX6_isOf : MethodName := ⟨RX6, "isOf", "(II)Z"⟩
abbrev cX6_mostOf : ByteArray := prog_8_method_12_code
def yX6_mostOf : MethodName := ⟨RX6, "mostOf", "(I)I"⟩
abbrev cX6_set : ByteArray := prog_8_method_13_code
def yX6_set : MethodName := ⟨RX6, "set", "(III)I"⟩
abbrev cX6_lays : ByteArray := prog_8_method_14_code
def yX6_lays : MethodName := ⟨RX6, "lays", "(III)V"⟩
abbrev cX6_party : ByteArray := prog_8_method_15_code
def yX6_party : MethodName := ⟨RX6, "party", "(III)I"⟩
abbrev cX6_told : ByteArray := prog_8_method_16_code
def yX6_told : MethodName := ⟨RX6, "told", "(II)I"⟩
abbrev cX6_onOf : ByteArray := prog_8_method_17_code
def yX6_onOf : MethodName := ⟨RX6, "onOf", "(I)I"⟩
abbrev cX6_whoOn : ByteArray := prog_8_method_18_code
def yX6_whoOn : MethodName := ⟨RX6, "whoOn", "(I)I"⟩
abbrev cX6_stoodOn : ByteArray := prog_8_method_19_code
def yX6_stoodOn : MethodName := ⟨RX6, "stoodOn", "()J"⟩
abbrev cX6_floor : ByteArray := prog_8_method_20_code
def yX6_floor : MethodName := ⟨RX6, "floor", "(I)J"⟩
abbrev cX6_feed : ByteArray := prog_8_method_21_code
def yX6_feed : MethodName := ⟨RX6, "feed", "(I)I"⟩
abbrev cX6_byteAt : ByteArray := prog_8_method_22_code
def yX6_byteAt : MethodName := ⟨RX6, "byteAt", "(I)I"⟩
abbrev cX6_next : ByteArray := prog_8_method_23_code
def yX6_next : MethodName := ⟨RX6, "next", "()V"⟩
abbrev cX6_fail : ByteArray := prog_8_method_24_code
def yX6_fail : MethodName := ⟨RX6, "fail", "()V"⟩
abbrev cX6_isLetter : ByteArray := prog_8_method_25_code
def yX6_isLetter : MethodName := ⟨RX6, "isLetter", "(II)Z"⟩
abbrev cX6_isWord : ByteArray := prog_8_method_26_code
def yX6_isWord : MethodName := ⟨RX6, "isWord", "(IIIIIIII)Z"⟩
abbrev cX6_isSign : ByteArray := prog_8_method_27_code
def yX6_isSign : MethodName := ⟨RX6, "isSign", "(I)Z"⟩
abbrev cX6_opens : ByteArray := prog_8_method_28_code
def yX6_opens : MethodName := ⟨RX6, "opens", "()Z"⟩
abbrev cX6_name : ByteArray := prog_8_method_29_code
def yX6_name : MethodName := ⟨RX6, "name", "()I"⟩
abbrev cX6_atom5 : ByteArray := prog_8_method_30_code
def yX6_atom5 : MethodName := ⟨RX6, "atom5", "()I"⟩
abbrev cX6_term5 : ByteArray := prog_8_method_31_code
def yX6_term5 : MethodName := ⟨RX6, "term5", "()I"⟩
abbrev cX6_added5 : ByteArray := prog_8_method_32_code
def yX6_added5 : MethodName := ⟨RX6, "added5", "()I"⟩
abbrev cX6_not5 : ByteArray := prog_8_method_33_code
def yX6_not5 : MethodName := ⟨RX6, "not5", "()I"⟩
abbrev cX6_both5 : ByteArray := prog_8_method_34_code
def yX6_both5 : MethodName := ⟨RX6, "both5", "()I"⟩
abbrev cX6_either5 : ByteArray := prog_8_method_35_code
def yX6_either5 : MethodName := ⟨RX6, "either5", "()I"⟩
abbrev cX6_atom4 : ByteArray := prog_8_method_36_code
def yX6_atom4 : MethodName := ⟨RX6, "atom4", "()I"⟩
abbrev cX6_term4 : ByteArray := prog_8_method_37_code
def yX6_term4 : MethodName := ⟨RX6, "term4", "()I"⟩
abbrev cX6_added4 : ByteArray := prog_8_method_38_code
def yX6_added4 : MethodName := ⟨RX6, "added4", "()I"⟩
abbrev cX6_not4 : ByteArray := prog_8_method_39_code
def yX6_not4 : MethodName := ⟨RX6, "not4", "()I"⟩
abbrev cX6_both4 : ByteArray := prog_8_method_40_code
def yX6_both4 : MethodName := ⟨RX6, "both4", "()I"⟩
abbrev cX6_either4 : ByteArray := prog_8_method_41_code
def yX6_either4 : MethodName := ⟨RX6, "either4", "()I"⟩
abbrev cX6_atom3 : ByteArray := prog_8_method_42_code
def yX6_atom3 : MethodName := ⟨RX6, "atom3", "()I"⟩
abbrev cX6_term3 : ByteArray := prog_8_method_43_code
def yX6_term3 : MethodName := ⟨RX6, "term3", "()I"⟩
abbrev cX6_added3 : ByteArray := prog_8_method_44_code
def yX6_added3 : MethodName := ⟨RX6, "added3", "()I"⟩
abbrev cX6_not3 : ByteArray := prog_8_method_45_code
def yX6_not3 : MethodName := ⟨RX6, "not3", "()I"⟩
abbrev cX6_both3 : ByteArray := prog_8_method_46_code
def yX6_both3 : MethodName := ⟨RX6, "both3", "()I"⟩
abbrev cX6_either3 : ByteArray := prog_8_method_47_code
def yX6_either3 : MethodName := ⟨RX6, "either3", "()I"⟩
abbrev cX6_atom2 : ByteArray := prog_8_method_48_code
def yX6_atom2 : MethodName := ⟨RX6, "atom2", "()I"⟩
abbrev cX6_term2 : ByteArray := prog_8_method_49_code
def yX6_term2 : MethodName := ⟨RX6, "term2", "()I"⟩
abbrev cX6_added2 : ByteArray := prog_8_method_50_code
def yX6_added2 : MethodName := ⟨RX6, "added2", "()I"⟩
abbrev cX6_not2 : ByteArray := prog_8_method_51_code
def yX6_not2 : MethodName := ⟨RX6, "not2", "()I"⟩
abbrev cX6_both2 : ByteArray := prog_8_method_52_code
def yX6_both2 : MethodName := ⟨RX6, "both2", "()I"⟩
abbrev cX6_either2 : ByteArray := prog_8_method_53_code
def yX6_either2 : MethodName := ⟨RX6, "either2", "()I"⟩
abbrev cX6_atom1 : ByteArray := prog_8_method_54_code
def yX6_atom1 : MethodName := ⟨RX6, "atom1", "()I"⟩
abbrev cX6_term1 : ByteArray := prog_8_method_55_code
def yX6_term1 : MethodName := ⟨RX6, "term1", "()I"⟩
abbrev cX6_added1 : ByteArray := prog_8_method_56_code
def yX6_added1 : MethodName := ⟨RX6, "added1", "()I"⟩
abbrev cX6_not1 : ByteArray := prog_8_method_57_code
def yX6_not1 : MethodName := ⟨RX6, "not1", "()I"⟩
abbrev cX6_both1 : ByteArray := prog_8_method_58_code
def yX6_both1 : MethodName := ⟨RX6, "both1", "()I"⟩
abbrev cX6_either1 : ByteArray := prog_8_method_59_code
def yX6_either1 : MethodName := ⟨RX6, "either1", "()I"⟩
abbrev cX6_atom0 : ByteArray := prog_8_method_60_code
def yX6_atom0 : MethodName := ⟨RX6, "atom0", "()I"⟩
abbrev cX6_term0 : ByteArray := prog_8_method_61_code
def yX6_term0 : MethodName := ⟨RX6, "term0", "()I"⟩
abbrev cX6_added0 : ByteArray := prog_8_method_62_code
def yX6_added0 : MethodName := ⟨RX6, "added0", "()I"⟩
abbrev cX6_not0 : ByteArray := prog_8_method_63_code
def yX6_not0 : MethodName := ⟨RX6, "not0", "()I"⟩
abbrev cX6_both0 : ByteArray := prog_8_method_64_code
def yX6_both0 : MethodName := ⟨RX6, "both0", "()I"⟩
abbrev cX6_either0 : ByteArray := prog_8_method_65_code
def yX6_either0 : MethodName := ⟨RX6, "either0", "()I"⟩
abbrev cX6_part : ByteArray := prog_8_method_66_code
def yX6_part : MethodName := ⟨RX6, "part", "(Z)I"⟩
abbrev cX6_read : ByteArray := prog_8_method_67_code
def yX6_read : MethodName := ⟨RX6, "read", "(II)I"⟩
abbrev cX6_text : ByteArray := prog_8_method_68_code
def yX6_text : MethodName := ⟨RX6, "text", "()I"⟩
abbrev cX6_force : ByteArray := prog_8_method_69_code
def yX6_force : MethodName := ⟨RX6, "force", "(I)I"⟩
abbrev cX6_says : ByteArray := prog_8_method_70_code
def yX6_says : MethodName := ⟨RX6, "says", "(II)I"⟩
abbrev cX6_turnOf : ByteArray := prog_8_method_71_code
def yX6_turnOf : MethodName := ⟨RX6, "turnOf", "(I)I"⟩
abbrev cX6_tiresOf : ByteArray := prog_8_method_72_code
def yX6_tiresOf : MethodName := ⟨RX6, "tiresOf", "(I)I"⟩
abbrev cX6_restsOf : ByteArray := prog_8_method_73_code
def yX6_restsOf : MethodName := ⟨RX6, "restsOf", "(I)I"⟩
abbrev cX6_foundOf : ByteArray := prog_8_method_74_code
def yX6_foundOf : MethodName := ⟨RX6, "foundOf", "(I)I"⟩
abbrev cX6_isBlack : ByteArray := prog_8_method_75_code
def yX6_isBlack : MethodName := ⟨RX6, "isBlack", "(I)Z"⟩
abbrev cX6_columnsBy : ByteArray := prog_8_method_76_code
def yX6_columnsBy : MethodName := ⟨RX6, "columnsBy", "(I)I"⟩
abbrev cX6_rowsBy : ByteArray := prog_8_method_77_code
def yX6_rowsBy : MethodName := ⟨RX6, "rowsBy", "(I)I"⟩
abbrev cX6_leapFrom : ByteArray := prog_8_method_78_code
def yX6_leapFrom : MethodName := ⟨RX6, "leapFrom", "(III)I"⟩
abbrev cX6_leap : ByteArray := prog_8_method_79_code
def yX6_leap : MethodName := ⟨RX6, "leap", "(II)I"⟩
abbrev cX6_passes : ByteArray := prog_8_method_80_code
def yX6_passes : MethodName := ⟨RX6, "passes", "()I"⟩
abbrev cX6_minute : ByteArray := prog_8_method_81_code
def yX6_minute : MethodName := ⟨RX6, "minute", "()I"⟩
abbrev cX6_laysAside : ByteArray := prog_8_method_82_code
def yX6_laysAside : MethodName := ⟨RX6, "laysAside", "()V"⟩
abbrev cX6_laysBack : ByteArray := prog_8_method_83_code
def yX6_laysBack : MethodName := ⟨RX6, "laysBack", "()V"⟩
abbrev cX6_goes : ByteArray := prog_8_method_84_code
def yX6_goes : MethodName := ⟨RX6, "goes", "(I)V"⟩
abbrev cX6_foundMany : ByteArray := prog_8_method_85_code
def yX6_foundMany : MethodName := ⟨RX6, "foundMany", "(I)I"⟩
abbrev cX6_foundBehind : ByteArray := prog_8_method_86_code
def yX6_foundBehind : MethodName := ⟨RX6, "foundBehind", "(II)I"⟩
abbrev cX6_run : ByteArray := prog_8_method_87_code
def yX6_run : MethodName := ⟨RX6, "run", "(III)I"⟩
abbrev cX6_call : ByteArray := prog_8_method_88_code
def yX6_call : MethodName := ⟨RX6, "call", "(III)I"⟩
abbrev cX6_meet : ByteArray := prog_8_method_89_code
def yX6_meet : MethodName := ⟨RX6, "meet", "(II)I"⟩
abbrev cX6_reachedBy : ByteArray := prog_8_method_90_code
def yX6_reachedBy : MethodName := ⟨RX6, "reachedBy", "(II)J"⟩
abbrev cX6_reached : ByteArray := prog_8_method_91_code
def yX6_reached : MethodName := ⟨RX6, "reached", "(II)J"⟩
abbrev cX6_fewest : ByteArray := prog_8_method_92_code
def yX6_fewest : MethodName := ⟨RX6, "fewest", "(II)I"⟩
abbrev cX6_tries : ByteArray := prog_8_method_93_code
def yX6_tries : MethodName := ⟨RX6, "tries", "(II)V"⟩
abbrev cX6_triesTile : ByteArray := prog_8_method_94_code
def yX6_triesTile : MethodName := ⟨RX6, "triesTile", "(IIII)V"⟩
abbrev cX6_best : ByteArray := prog_8_method_95_code
def yX6_best : MethodName := ⟨RX6, "best", "(III)I"⟩
abbrev cX6_lowest : ByteArray := prog_8_method_96_code
def yX6_lowest : MethodName := ⟨RX6, "lowest", "(JJI)J"⟩
abbrev cX6_mean : ByteArray := prog_8_method_97_code
def yX6_mean : MethodName := ⟨RX6, "mean", "(I)J"⟩
abbrev cX6_firstOther : ByteArray := prog_8_method_98_code
def yX6_firstOther : MethodName := ⟨RX6, "firstOther", "(II)I"⟩
abbrev cX6_likeSet : ByteArray := prog_8_method_99_code
def yX6_likeSet : MethodName := ⟨RX6, "likeSet", "(I)I"⟩
abbrev cX6_tells : ByteArray := prog_8_method_100_code
def yX6_tells : MethodName := ⟨RX6, "tells", "(III)I"⟩
abbrev cX6_stood : ByteArray := prog_8_method_101_code
def yX6_stood : MethodName := ⟨RX6, "stood", "(II)J"⟩
abbrev cX6_film : ByteArray := prog_8_method_102_code
def yX6_film : MethodName := ⟨RX6, "film", "(III)I"⟩
abbrev cX6_onDrawn : ByteArray := prog_8_method_103_code
def yX6_onDrawn : MethodName := ⟨RX6, "onDrawn", "(III)I"⟩
abbrev cX6_drawn : ByteArray := prog_8_method_104_code
def yX6_drawn : MethodName := ⟨RX6, "drawn", "(III)I"⟩
abbrev cX6_chance : ByteArray := prog_8_method_105_code
def yX6_chance : MethodName := ⟨RX6, "chance", "(IIII)J"⟩
abbrev cX6_image : ByteArray := prog_8_method_106_code
def yX6_image : MethodName := ⟨RX6, "image", "()I"⟩
abbrev cX6_back : ByteArray := prog_8_method_107_code
def yX6_back : MethodName := ⟨RX6, "back", "()I"⟩
abbrev cX6_count : ByteArray := prog_8_method_108_code
def yX6_count : MethodName := ⟨RX6, "count", "(I)I"⟩
abbrev cX6_isSheet : ByteArray := prog_8_method_109_code
def yX6_isSheet : MethodName := ⟨RX6, "isSheet", "(I)Z"⟩
abbrev cX6_sheet : ByteArray := prog_8_method_110_code
def yX6_sheet : MethodName := ⟨RX6, "sheet", "(III)I"⟩
abbrev cX6_cell : ByteArray := prog_8_method_111_code
def yX6_cell : MethodName := ⟨RX6, "cell", "(III)I"⟩
abbrev cX6_copy : ByteArray := prog_8_method_112_code
def yX6_copy : MethodName := ⟨RX6, "copy", "(IIIII)I"⟩
abbrev cX6_suits : ByteArray := prog_8_method_113_code
def yX6_suits : MethodName := ⟨RX6, "suits", "(IIII)I"⟩
abbrev cX6_over : ByteArray := prog_8_method_114_code
def yX6_over : MethodName := ⟨RX6, "over", "(I)I"⟩
abbrev cX6_taken : ByteArray := prog_8_method_115_code
def yX6_taken : MethodName := ⟨RX6, "taken", "(II)I"⟩
def RJx145de : String := "java/io/Serializable"
def TJx145de : u_T := fun k => match k with
  | _ => ("", "", "", false)
def tyJx145de : Nat → FieldType := fun k => match k with
  | _ => .int
abbrev wsJx145de0 : List Cond := u_ws RJx145de TJx145de 0
theorem nmJx145de : ∀ a, a < 0 → ∀ b, b < 0 → a ≠ b → (TJx145de a).2.1 ≠ (TJx145de b).2.1 := by decide +kernel
theorem tyJx145de_ok : ∀ k, k < 0 → parseFieldDescriptor (TJx145de k).2.2.1 = some (tyJx145de k) := by decide +kernel
def RJx9f9b0 : String := "java/lang/CharSequence"
def TJx9f9b0 : u_T := fun k => match k with
  | _ => ("", "", "", false)
def tyJx9f9b0 : Nat → FieldType := fun k => match k with
  | _ => .int
abbrev wsJx9f9b00 : List Cond := u_ws RJx9f9b0 TJx9f9b0 0
theorem nmJx9f9b0 : ∀ a, a < 0 → ∀ b, b < 0 → a ≠ b → (TJx9f9b0 a).2.1 ≠ (TJx9f9b0 b).2.1 := by decide +kernel
theorem tyJx9f9b0_ok : ∀ k, k < 0 → parseFieldDescriptor (TJx9f9b0 k).2.2.1 = some (tyJx9f9b0 k) := by decide +kernel
def RJx8e188 : String := "java/lang/Cloneable"
def TJx8e188 : u_T := fun k => match k with
  | _ => ("", "", "", false)
def tyJx8e188 : Nat → FieldType := fun k => match k with
  | _ => .int
abbrev wsJx8e1880 : List Cond := u_ws RJx8e188 TJx8e188 0
theorem nmJx8e188 : ∀ a, a < 0 → ∀ b, b < 0 → a ≠ b → (TJx8e188 a).2.1 ≠ (TJx8e188 b).2.1 := by decide +kernel
theorem tyJx8e188_ok : ∀ k, k < 0 → parseFieldDescriptor (TJx8e188 k).2.2.1 = some (tyJx8e188 k) := by decide +kernel
def RJxb160c : String := "java/lang/Comparable"
def TJxb160c : u_T := fun k => match k with
  | _ => ("", "", "", false)
def tyJxb160c : Nat → FieldType := fun k => match k with
  | _ => .int
abbrev wsJxb160c0 : List Cond := u_ws RJxb160c TJxb160c 0
theorem nmJxb160c : ∀ a, a < 0 → ∀ b, b < 0 → a ≠ b → (TJxb160c a).2.1 ≠ (TJxb160c b).2.1 := by decide +kernel
theorem tyJxb160c_ok : ∀ k, k < 0 → parseFieldDescriptor (TJxb160c k).2.2.1 = some (tyJxb160c k) := by decide +kernel
def RJ13 : String := "java/lang/Long"
def TJ13 : u_T := fun k => match k with
  | _ => ("", "", "", false)
def tyJ13 : Nat → FieldType := fun k => match k with
  | _ => .int
abbrev wsJ130 : List Cond := u_ws RJ13 TJ13 0
theorem nmJ13 : ∀ a, a < 0 → ∀ b, b < 0 → a ≠ b → (TJ13 a).2.1 ≠ (TJ13 b).2.1 := by decide +kernel
theorem tyJ13_ok : ∀ k, k < 0 → parseFieldDescriptor (TJ13 k).2.2.1 = some (tyJ13 k) := by decide +kernel
abbrev cJ13_bitCount_95d88 : ByteArray := prog_10_method_50_code
def yJ13_bitCount_95d88 : MethodName := ⟨RJ13, "bitCount", "(J)I"⟩
def RJ9 : String := "java/lang/Math"
def TJ9 : u_T := fun k => match k with
  | _ => ("", "", "", false)
def tyJ9 : Nat → FieldType := fun k => match k with
  | _ => .int
abbrev wsJ90 : List Cond := u_ws RJ9 TJ9 0
theorem nmJ9 : ∀ a, a < 0 → ∀ b, b < 0 → a ≠ b → (TJ9 a).2.1 ≠ (TJ9 b).2.1 := by decide +kernel
theorem tyJ9_ok : ∀ k, k < 0 → parseFieldDescriptor (TJ9 k).2.2.1 = some (tyJ9 k) := by decide +kernel
abbrev cJ9_floorMod_7cf53 : ByteArray := prog_11_method_50_code
def yJ9_floorMod_7cf53 : MethodName := ⟨RJ9, "floorMod", "(II)I"⟩
abbrev cJ9_max_7cf53 : ByteArray := prog_11_method_65_code
def yJ9_max_7cf53 : MethodName := ⟨RJ9, "max", "(II)I"⟩
abbrev cJ9_min_7cf53 : ByteArray := prog_11_method_69_code
def yJ9_min_7cf53 : MethodName := ⟨RJ9, "min", "(II)I"⟩
def RJ0 : String := "java/lang/String"
def TJ0 : u_T := fun k => match k with
  | _ => ("", "", "", false)
def tyJ0 : Nat → FieldType := fun k => match k with
  | _ => .int
abbrev wsJ00 : List Cond := u_ws RJ0 TJ0 0
theorem nmJ0 : ∀ a, a < 0 → ∀ b, b < 0 → a ≠ b → (TJ0 a).2.1 ≠ (TJ0 b).2.1 := by decide +kernel
theorem tyJ0_ok : ∀ k, k < 0 → parseFieldDescriptor (TJ0 k).2.2.1 = some (tyJ0 k) := by decide +kernel
abbrev cJ0_length_8abf5 : ByteArray := prog_12_method_54_code
def yJ0_length_8abf5 : MethodName := ⟨RJ0, "length", "()I"⟩
abbrev cJ0_charAt_5068e : ByteArray := prog_12_method_56_code
def yJ0_charAt_5068e : MethodName := ⟨RJ0, "charAt", "(I)C"⟩
abbrev cJ0_coder_7d493 : ByteArray := prog_12_method_152_code
def yJ0_coder_7d493 : MethodName := ⟨RJ0, "coder", "()B"⟩
abbrev cJ0_isLatin1_aae02 : ByteArray := prog_12_method_154_code
def yJ0_isLatin1_aae02 : MethodName := ⟨RJ0, "isLatin1", "()Z"⟩
abbrev cJ0_checkIndex_df160 : ByteArray := prog_12_method_155_code
def yJ0_checkIndex_df160 : MethodName := ⟨RJ0, "checkIndex", "(II)V"⟩
def RJ1 : String := "java/lang/StringLatin1"
def TJ1 : u_T := fun k => match k with
  | _ => ("", "", "", false)
def tyJ1 : Nat → FieldType := fun k => match k with
  | _ => .int
abbrev wsJ10 : List Cond := u_ws RJ1 TJ1 0
theorem nmJ1 : ∀ a, a < 0 → ∀ b, b < 0 → a ≠ b → (TJ1 a).2.1 ≠ (TJ1 b).2.1 := by decide +kernel
theorem tyJ1_ok : ∀ k, k < 0 → parseFieldDescriptor (TJ1 k).2.2.1 = some (tyJ1 k) := by decide +kernel
abbrev cJ1_charAt_3b067 : ByteArray := prog_13_method_2_code
def yJ1_charAt_3b067 : MethodName := ⟨RJ1, "charAt", "([BI)C"⟩
def RJ2 : String := "java/lang/StringUTF16"
def TJ2 : u_T := fun k => match k with
  | _ => ("", "", "", false)
def tyJ2 : Nat → FieldType := fun k => match k with
  | _ => .int
abbrev wsJ20 : List Cond := u_ws RJ2 TJ2 0
theorem nmJ2 : ∀ a, a < 0 → ∀ b, b < 0 → a ≠ b → (TJ2 a).2.1 ≠ (TJ2 b).2.1 := by decide +kernel
theorem tyJ2_ok : ∀ k, k < 0 → parseFieldDescriptor (TJ2 k).2.2.1 = some (tyJ2 k) := by decide +kernel
abbrev cJ2_getChar_3b067 : ByteArray := prog_14_method_5_code
def yJ2_getChar_3b067 : MethodName := ⟨RJ2, "getChar", "([BI)C"⟩
abbrev cJ2_length_9d52b : ByteArray := prog_14_method_6_code
def yJ2_length_9d52b : MethodName := ⟨RJ2, "length", "([B)I"⟩
abbrev cJ2_charAt_3b067 : ByteArray := prog_14_method_83_code
def yJ2_charAt_3b067 : MethodName := ⟨RJ2, "charAt", "([BI)C"⟩
abbrev cJ2_checkIndex_2214a : ByteArray := prog_14_method_91_code
def yJ2_checkIndex_2214a : MethodName := ⟨RJ2, "checkIndex", "(I[B)V"⟩
def RJ10 : String := "java/lang/System"
def TJ10 : u_T := fun k => match k with
  | _ => ("", "", "", false)
def tyJ10 : Nat → FieldType := fun k => match k with
  | _ => .int
abbrev wsJ100 : List Cond := u_ws RJ10 TJ10 0
theorem nmJ10 : ∀ a, a < 0 → ∀ b, b < 0 → a ≠ b → (TJ10 a).2.1 ≠ (TJ10 b).2.1 := by decide +kernel
theorem tyJ10_ok : ∀ k, k < 0 → parseFieldDescriptor (TJ10 k).2.2.1 = some (tyJ10 k) := by decide +kernel
def RJxfd54e : String := "java/lang/constant/Constable"
def TJxfd54e : u_T := fun k => match k with
  | _ => ("", "", "", false)
def tyJxfd54e : Nat → FieldType := fun k => match k with
  | _ => .int
abbrev wsJxfd54e0 : List Cond := u_ws RJxfd54e TJxfd54e 0
theorem nmJxfd54e : ∀ a, a < 0 → ∀ b, b < 0 → a ≠ b → (TJxfd54e a).2.1 ≠ (TJxfd54e b).2.1 := by decide +kernel
theorem tyJxfd54e_ok : ∀ k, k < 0 → parseFieldDescriptor (TJxfd54e k).2.2.1 = some (tyJxfd54e k) := by decide +kernel
def RJx3cf43 : String := "java/lang/constant/ConstantDesc"
def TJx3cf43 : u_T := fun k => match k with
  | _ => ("", "", "", false)
def tyJx3cf43 : Nat → FieldType := fun k => match k with
  | _ => .int
abbrev wsJx3cf430 : List Cond := u_ws RJx3cf43 TJx3cf43 0
theorem nmJx3cf43 : ∀ a, a < 0 → ∀ b, b < 0 → a ≠ b → (TJx3cf43 a).2.1 ≠ (TJx3cf43 b).2.1 := by decide +kernel
theorem tyJx3cf43_ok : ∀ k, k < 0 → parseFieldDescriptor (TJx3cf43 k).2.2.1 = some (tyJx3cf43 k) := by decide +kernel
def RJ7 : String := "java/util/Arrays"
def TJ7 : u_T := fun k => match k with
  | _ => ("", "", "", false)
def tyJ7 : Nat → FieldType := fun k => match k with
  | _ => .int
abbrev wsJ70 : List Cond := u_ws RJ7 TJ7 0
theorem nmJ7 : ∀ a, a < 0 → ∀ b, b < 0 → a ≠ b → (TJ7 a).2.1 ≠ (TJ7 b).2.1 := by decide +kernel
theorem tyJ7_ok : ∀ k, k < 0 → parseFieldDescriptor (TJ7 k).2.2.1 = some (tyJ7 k) := by decide +kernel
abbrev cJ7_fill_53178 : ByteArray := prog_16_method_103_code
def yJ7_fill_53178 : MethodName := ⟨RJ7, "fill", "([II)V"⟩
abbrev cJ7_copyOf_59c91 : ByteArray := prog_16_method_123_code
def yJ7_copyOf_59c91 : MethodName := ⟨RJ7, "copyOf", "([II)[I"⟩
def RJ3 : String := "jdk/internal/util/Preconditions"
def TJ3 : u_T := fun k => match k with
  | _ => ("", "", "", false)
def tyJ3 : Nat → FieldType := fun k => match k with
  | _ => .int
abbrev wsJ30 : List Cond := u_ws RJ3 TJ3 0
theorem nmJ3 : ∀ a, a < 0 → ∀ b, b < 0 → a ≠ b → (TJ3 a).2.1 ≠ (TJ3 b).2.1 := by decide +kernel
theorem tyJ3_ok : ∀ k, k < 0 → parseFieldDescriptor (TJ3 k).2.2.1 = some (tyJ3 k) := by decide +kernel
abbrev cJ3_checkIndex_8e157 : ByteArray := prog_17_method_11_code
def yJ3_checkIndex_8e157 : MethodName := ⟨RJ3, "checkIndex", "(IILjava/util/function/BiFunction;)I"⟩
def RL : String := "TilesOfLawLaw"
abbrev cL_law : ByteArray := code
def yL_law : MethodName := ⟨RL, "law", "([I)Z"⟩
theorem inX0 : ∀ w ∈ wsX00, w ∈ lw_tbl := by decide +kernel
theorem inX1 : ∀ w ∈ wsX10, w ∈ lw_tbl := by decide +kernel
theorem inX2 : ∀ w ∈ wsX20, w ∈ lw_tbl := by decide +kernel
theorem inX3 : ∀ w ∈ wsX30, w ∈ lw_tbl := by decide +kernel
theorem inX4 : ∀ w ∈ wsX40, w ∈ lw_tbl := by decide +kernel
theorem inX5 : ∀ w ∈ wsX50, w ∈ lw_tbl := by decide +kernel
theorem inX6 : ∀ w ∈ wsX60, w ∈ lw_tbl := by decide +kernel
theorem inJx145de : ∀ w ∈ wsJx145de0, w ∈ lw_tbl := by decide +kernel
theorem inJx9f9b0 : ∀ w ∈ wsJx9f9b00, w ∈ lw_tbl := by decide +kernel
theorem inJx8e188 : ∀ w ∈ wsJx8e1880, w ∈ lw_tbl := by decide +kernel
theorem inJxb160c : ∀ w ∈ wsJxb160c0, w ∈ lw_tbl := by decide +kernel
theorem inJ13 : ∀ w ∈ wsJ130, w ∈ lw_tbl := by decide +kernel
theorem inJ9 : ∀ w ∈ wsJ90, w ∈ lw_tbl := by decide +kernel
theorem inJ0 : ∀ w ∈ wsJ00, w ∈ lw_tbl := by decide +kernel
theorem inJ1 : ∀ w ∈ wsJ10, w ∈ lw_tbl := by decide +kernel
theorem inJ2 : ∀ w ∈ wsJ20, w ∈ lw_tbl := by decide +kernel
theorem inJ10 : ∀ w ∈ wsJ100, w ∈ lw_tbl := by decide +kernel
theorem inJxfd54e : ∀ w ∈ wsJxfd54e0, w ∈ lw_tbl := by decide +kernel
theorem inJx3cf43 : ∀ w ∈ wsJx3cf430, w ∈ lw_tbl := by decide +kernel
theorem inJ7 : ∀ w ∈ wsJ70, w ∈ lw_tbl := by decide +kernel
theorem inJ3 : ∀ w ∈ wsJ30, w ∈ lw_tbl := by decide +kernel
abbrev vwCl : List vw_C := [(RX0, TX0, 9), (RX1, TX1, 3), (RX2, TX2, 9), (RX3, TX3, 3), (RX4, TX4, 3), (RX5, TX5, 8), (RX6, TX6, 41)]
def TB : List Cond := lw_tbl.filter goodWord
theorem TB_good : GoodIn lw_tbl TB := fun w h => ⟨(List.mem_filter.mp h).1, good_of_word (List.mem_filter.mp h).2⟩
