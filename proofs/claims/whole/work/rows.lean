section
/-- a private method of a class that the tables say can be made, by its rows of tables_1 -/
def lw_okq (q : MethodName × Nat) : Prop := (q.1.cls ≠ "java/lang/invoke/MethodHandle" ∧ q.1.cls ≠ "java/lang/invoke/VarHandle") ∧ Cond.instantiable q.1.cls q.2 ∈ tables_1 ∧ Cond.privateMethod q.1 ∈ tables_1 ∧ Cond.instanceMethod q.1 ∈ tables_1
theorem lw_p0 : lw_okq (⟨"TornBag$Bag", "paperAt", "(I)I"⟩, 8) := ⟨⟨by decide +kernel, by decide +kernel⟩, List.mem_of_getElem? (i := 182) (by decide +kernel), List.mem_of_getElem? (i := 461) (by decide +kernel), List.mem_of_getElem? (i := 462) (by decide +kernel)⟩
theorem lw_p1 : lw_okq (⟨"TornBag$Bag", "thinAt", "(I)I"⟩, 8) := ⟨⟨by decide +kernel, by decide +kernel⟩, List.mem_of_getElem? (i := 182) (by decide +kernel), List.mem_of_getElem? (i := 468) (by decide +kernel), List.mem_of_getElem? (i := 469) (by decide +kernel)⟩
theorem lw_p2 : lw_okq (⟨"TornBag$Tape", "next", "()I"⟩, 3) := ⟨⟨by decide +kernel, by decide +kernel⟩, List.mem_of_getElem? (i := 225) (by decide +kernel), List.mem_of_getElem? (i := 510) (by decide +kernel), List.mem_of_getElem? (i := 511) (by decide +kernel)⟩
theorem lw_p3 : lw_okq (⟨"TornBag$Tape", "faultHere", "()I"⟩, 3) := ⟨⟨by decide +kernel, by decide +kernel⟩, List.mem_of_getElem? (i := 225) (by decide +kernel), List.mem_of_getElem? (i := 517) (by decide +kernel), List.mem_of_getElem? (i := 518) (by decide +kernel)⟩
theorem lw_p4 : lw_okq (⟨"TornBag$Tape", "readBags", "(LTornBag$Goods;)Z"⟩, 3) := ⟨⟨by decide +kernel, by decide +kernel⟩, List.mem_of_getElem? (i := 225) (by decide +kernel), List.mem_of_getElem? (i := 549) (by decide +kernel), List.mem_of_getElem? (i := 550) (by decide +kernel)⟩
theorem lw_p5 : lw_okq (⟨"TornBag$Tape", "readThings", "(LTornBag$Goods;[I)Z"⟩, 3) := ⟨⟨by decide +kernel, by decide +kernel⟩, List.mem_of_getElem? (i := 225) (by decide +kernel), List.mem_of_getElem? (i := 557) (by decide +kernel), List.mem_of_getElem? (i := 558) (by decide +kernel)⟩
theorem lw_p6 : lw_okq (⟨"TornBag$Tape", "readThing", "(LTornBag$Goods;)I"⟩, 3) := ⟨⟨by decide +kernel, by decide +kernel⟩, List.mem_of_getElem? (i := 225) (by decide +kernel), List.mem_of_getElem? (i := 561) (by decide +kernel), List.mem_of_getElem? (i := 562) (by decide +kernel)⟩
theorem lw_p7 : lw_okq (⟨"TornBag$Tape", "readWeight", "()I"⟩, 3) := ⟨⟨by decide +kernel, by decide +kernel⟩, List.mem_of_getElem? (i := 225) (by decide +kernel), List.mem_of_getElem? (i := 565) (by decide +kernel), List.mem_of_getElem? (i := 566) (by decide +kernel)⟩
theorem lw_p8 : lw_okq (⟨"TornBag$Tape", "readMarked", "(III)I"⟩, 3) := ⟨⟨by decide +kernel, by decide +kernel⟩, List.mem_of_getElem? (i := 225) (by decide +kernel), List.mem_of_getElem? (i := 570) (by decide +kernel), List.mem_of_getElem? (i := 571) (by decide +kernel)⟩
theorem lw_p9 : lw_okq (⟨"TornBag$Bag", "fallenBy", "(I)I"⟩, 8) := ⟨⟨by decide +kernel, by decide +kernel⟩, List.mem_of_getElem? (i := 182) (by decide +kernel), List.mem_of_getElem? (i := 661) (by decide +kernel), List.mem_of_getElem? (i := 662) (by decide +kernel)⟩
theorem lw_p10 : lw_okq (⟨"TornBag$Outlook", "narrowLuck", "(I)V"⟩, 10) := ⟨⟨by decide +kernel, by decide +kernel⟩, List.mem_of_getElem? (i := 271) (by decide +kernel), List.mem_of_getElem? (i := 716) (by decide +kernel), List.mem_of_getElem? (i := 717) (by decide +kernel)⟩
theorem lw_p11 : lw_okq (⟨"TornBag$Outlook", "listMoved", "()V"⟩, 10) := ⟨⟨by decide +kernel, by decide +kernel⟩, List.mem_of_getElem? (i := 271) (by decide +kernel), List.mem_of_getElem? (i := 745) (by decide +kernel), List.mem_of_getElem? (i := 746) (by decide +kernel)⟩
theorem lw_p12 : lw_okq (⟨"TornBag$Outlook", "measureReach", "()V"⟩, 10) := ⟨⟨by decide +kernel, by decide +kernel⟩, List.mem_of_getElem? (i := 271) (by decide +kernel), List.mem_of_getElem? (i := 751) (by decide +kernel), List.mem_of_getElem? (i := 752) (by decide +kernel)⟩
theorem lw_p13 : lw_okq (⟨"TornBag$Outlook", "giveWith", "(III)I"⟩, 10) := ⟨⟨by decide +kernel, by decide +kernel⟩, List.mem_of_getElem? (i := 271) (by decide +kernel), List.mem_of_getElem? (i := 755) (by decide +kernel), List.mem_of_getElem? (i := 756) (by decide +kernel)⟩
theorem lw_p14 : lw_okq (⟨"TornBag$Outlook", "reachOfRow", "()I"⟩, 10) := ⟨⟨by decide +kernel, by decide +kernel⟩, List.mem_of_getElem? (i := 271) (by decide +kernel), List.mem_of_getElem? (i := 760) (by decide +kernel), List.mem_of_getElem? (i := 761) (by decide +kernel)⟩
theorem lw_p15 : lw_okq (⟨"TornBag$Outlook", "nextRow", "(I)V"⟩, 10) := ⟨⟨by decide +kernel, by decide +kernel⟩, List.mem_of_getElem? (i := 271) (by decide +kernel), List.mem_of_getElem? (i := 765) (by decide +kernel), List.mem_of_getElem? (i := 766) (by decide +kernel)⟩
def lw_privs_1 : List (MethodName × Nat) := [(⟨"TornBag$Bag", "paperAt", "(I)I"⟩, 8), (⟨"TornBag$Bag", "thinAt", "(I)I"⟩, 8), (⟨"TornBag$Tape", "next", "()I"⟩, 3), (⟨"TornBag$Tape", "faultHere", "()I"⟩, 3), (⟨"TornBag$Tape", "readBags", "(LTornBag$Goods;)Z"⟩, 3), (⟨"TornBag$Tape", "readThings", "(LTornBag$Goods;[I)Z"⟩, 3), (⟨"TornBag$Tape", "readThing", "(LTornBag$Goods;)I"⟩, 3), (⟨"TornBag$Tape", "readWeight", "()I"⟩, 3), (⟨"TornBag$Tape", "readMarked", "(III)I"⟩, 3), (⟨"TornBag$Bag", "fallenBy", "(I)I"⟩, 8), (⟨"TornBag$Outlook", "narrowLuck", "(I)V"⟩, 10), (⟨"TornBag$Outlook", "listMoved", "()V"⟩, 10), (⟨"TornBag$Outlook", "measureReach", "()V"⟩, 10), (⟨"TornBag$Outlook", "giveWith", "(III)I"⟩, 10), (⟨"TornBag$Outlook", "reachOfRow", "()I"⟩, 10), (⟨"TornBag$Outlook", "nextRow", "(I)V"⟩, 10)]
theorem lw_r1 : ∀ q ∈ lw_privs_1, lw_okq q := List.forall_mem_cons.mpr ⟨lw_p0, List.forall_mem_cons.mpr ⟨lw_p1, List.forall_mem_cons.mpr ⟨lw_p2, List.forall_mem_cons.mpr ⟨lw_p3, List.forall_mem_cons.mpr ⟨lw_p4, List.forall_mem_cons.mpr ⟨lw_p5, List.forall_mem_cons.mpr ⟨lw_p6, List.forall_mem_cons.mpr ⟨lw_p7, List.forall_mem_cons.mpr ⟨lw_p8, List.forall_mem_cons.mpr ⟨lw_p9, List.forall_mem_cons.mpr ⟨lw_p10, List.forall_mem_cons.mpr ⟨lw_p11, List.forall_mem_cons.mpr ⟨lw_p12, List.forall_mem_cons.mpr ⟨lw_p13, List.forall_mem_cons.mpr ⟨lw_p14, List.forall_mem_cons.mpr ⟨lw_p15, fun _ h => absurd h List.not_mem_nil⟩⟩⟩⟩⟩⟩⟩⟩⟩⟩⟩⟩⟩⟩⟩⟩
theorem lw_p16 : lw_okq (⟨"TornBag$Outlook", "leftOf", "(I)I"⟩, 10) := ⟨⟨by decide +kernel, by decide +kernel⟩, List.mem_of_getElem? (i := 271) (by decide +kernel), List.mem_of_getElem? (i := 790) (by decide +kernel), List.mem_of_getElem? (i := 791) (by decide +kernel)⟩
theorem lw_p17 : lw_okq (⟨"TornBag$Outlook", "isLessLoss", "(II)Z"⟩, 10) := ⟨⟨by decide +kernel, by decide +kernel⟩, List.mem_of_getElem? (i := 271) (by decide +kernel), List.mem_of_getElem? (i := 794) (by decide +kernel), List.mem_of_getElem? (i := 795) (by decide +kernel)⟩
theorem lw_p18 : lw_okq (⟨"TornBag$Chase", "listRunners", "()V"⟩, 5) := ⟨⟨by decide +kernel, by decide +kernel⟩, List.mem_of_getElem? (i := 312) (by decide +kernel), List.mem_of_getElem? (i := 831) (by decide +kernel), List.mem_of_getElem? (i := 832) (by decide +kernel)⟩
theorem lw_p19 : lw_okq (⟨"TornBag$Chase", "worthBy", "(II)I"⟩, 5) := ⟨⟨by decide +kernel, by decide +kernel⟩, List.mem_of_getElem? (i := 312) (by decide +kernel), List.mem_of_getElem? (i := 838) (by decide +kernel), List.mem_of_getElem? (i := 839) (by decide +kernel)⟩
theorem lw_p20 : lw_okq (⟨"TornBag$Chase", "isHad", "(II)Z"⟩, 5) := ⟨⟨by decide +kernel, by decide +kernel⟩, List.mem_of_getElem? (i := 312) (by decide +kernel), List.mem_of_getElem? (i := 842) (by decide +kernel), List.mem_of_getElem? (i := 843) (by decide +kernel)⟩
theorem lw_p21 : lw_okq (⟨"TornBag$Chase", "firstBest", "(I)I"⟩, 5) := ⟨⟨by decide +kernel, by decide +kernel⟩, List.mem_of_getElem? (i := 312) (by decide +kernel), List.mem_of_getElem? (i := 851) (by decide +kernel), List.mem_of_getElem? (i := 852) (by decide +kernel)⟩
theorem lw_p22 : lw_okq (⟨"TornBag", "tiredBy", "(III)I"⟩, 11) := ⟨⟨by decide +kernel, by decide +kernel⟩, List.mem_of_getElem? (i := 18) (by decide +kernel), List.mem_of_getElem? (i := 859) (by decide +kernel), List.mem_of_getElem? (i := 860) (by decide +kernel)⟩
theorem lw_p23 : lw_okq (⟨"TornBag$Outlook", "addFalls", "(II)V"⟩, 10) := ⟨⟨by decide +kernel, by decide +kernel⟩, List.mem_of_getElem? (i := 271) (by decide +kernel), List.mem_of_getElem? (i := 872) (by decide +kernel), List.mem_of_getElem? (i := 873) (by decide +kernel)⟩
theorem lw_p24 : lw_okq (⟨"TornBag$Sheet", "lowestBits", "(J)J"⟩, 4) := ⟨⟨by decide +kernel, by decide +kernel⟩, List.mem_of_getElem? (i := 247) (by decide +kernel), List.mem_of_getElem? (i := 931) (by decide +kernel), List.mem_of_getElem? (i := 932) (by decide +kernel)⟩
theorem lw_p25 : lw_okq (⟨"TornBagModel", "isThing", "(I)Z"⟩, 19) := ⟨⟨by decide +kernel, by decide +kernel⟩, List.mem_of_getElem? (i := 960) (by decide +kernel), List.mem_of_getElem? (i := 1048) (by decide +kernel), List.mem_of_getElem? (i := 1049) (by decide +kernel)⟩
theorem lw_p26 : lw_okq (⟨"TornBagModel", "isBag", "(I)Z"⟩, 19) := ⟨⟨by decide +kernel, by decide +kernel⟩, List.mem_of_getElem? (i := 960) (by decide +kernel), List.mem_of_getElem? (i := 1052) (by decide +kernel), List.mem_of_getElem? (i := 1053) (by decide +kernel)⟩
theorem lw_p27 : lw_okq (⟨"TornBagModel", "isTorn", "(I)Z"⟩, 19) := ⟨⟨by decide +kernel, by decide +kernel⟩, List.mem_of_getElem? (i := 960) (by decide +kernel), List.mem_of_getElem? (i := 1056) (by decide +kernel), List.mem_of_getElem? (i := 1057) (by decide +kernel)⟩
theorem lw_p28 : lw_okq (⟨"TornBagModel", "look", "()I"⟩, 19) := ⟨⟨by decide +kernel, by decide +kernel⟩, List.mem_of_getElem? (i := 960) (by decide +kernel), List.mem_of_getElem? (i := 1110) (by decide +kernel), List.mem_of_getElem? (i := 1111) (by decide +kernel)⟩
theorem lw_p29 : lw_okq (⟨"TornBagModel", "faults", "(I)V"⟩, 19) := ⟨⟨by decide +kernel, by decide +kernel⟩, List.mem_of_getElem? (i := 960) (by decide +kernel), List.mem_of_getElem? (i := 1117) (by decide +kernel), List.mem_of_getElem? (i := 1118) (by decide +kernel)⟩
theorem lw_p30 : lw_okq (⟨"TornBagModel", "readsShop", "()V"⟩, 19) := ⟨⟨by decide +kernel, by decide +kernel⟩, List.mem_of_getElem? (i := 960) (by decide +kernel), List.mem_of_getElem? (i := 1128) (by decide +kernel), List.mem_of_getElem? (i := 1129) (by decide +kernel)⟩
theorem lw_p31 : lw_okq (⟨"TornBagModel", "readsBag", "()V"⟩, 19) := ⟨⟨by decide +kernel, by decide +kernel⟩, List.mem_of_getElem? (i := 960) (by decide +kernel), List.mem_of_getElem? (i := 1132) (by decide +kernel), List.mem_of_getElem? (i := 1133) (by decide +kernel)⟩
def lw_privs_2 : List (MethodName × Nat) := [(⟨"TornBag$Outlook", "leftOf", "(I)I"⟩, 10), (⟨"TornBag$Outlook", "isLessLoss", "(II)Z"⟩, 10), (⟨"TornBag$Chase", "listRunners", "()V"⟩, 5), (⟨"TornBag$Chase", "worthBy", "(II)I"⟩, 5), (⟨"TornBag$Chase", "isHad", "(II)Z"⟩, 5), (⟨"TornBag$Chase", "firstBest", "(I)I"⟩, 5), (⟨"TornBag", "tiredBy", "(III)I"⟩, 11), (⟨"TornBag$Outlook", "addFalls", "(II)V"⟩, 10), (⟨"TornBag$Sheet", "lowestBits", "(J)J"⟩, 4), (⟨"TornBagModel", "isThing", "(I)Z"⟩, 19), (⟨"TornBagModel", "isBag", "(I)Z"⟩, 19), (⟨"TornBagModel", "isTorn", "(I)Z"⟩, 19), (⟨"TornBagModel", "look", "()I"⟩, 19), (⟨"TornBagModel", "faults", "(I)V"⟩, 19), (⟨"TornBagModel", "readsShop", "()V"⟩, 19), (⟨"TornBagModel", "readsBag", "()V"⟩, 19)]
theorem lw_r2 : ∀ q ∈ lw_privs_2, lw_okq q := List.forall_mem_cons.mpr ⟨lw_p16, List.forall_mem_cons.mpr ⟨lw_p17, List.forall_mem_cons.mpr ⟨lw_p18, List.forall_mem_cons.mpr ⟨lw_p19, List.forall_mem_cons.mpr ⟨lw_p20, List.forall_mem_cons.mpr ⟨lw_p21, List.forall_mem_cons.mpr ⟨lw_p22, List.forall_mem_cons.mpr ⟨lw_p23, List.forall_mem_cons.mpr ⟨lw_p24, List.forall_mem_cons.mpr ⟨lw_p25, List.forall_mem_cons.mpr ⟨lw_p26, List.forall_mem_cons.mpr ⟨lw_p27, List.forall_mem_cons.mpr ⟨lw_p28, List.forall_mem_cons.mpr ⟨lw_p29, List.forall_mem_cons.mpr ⟨lw_p30, List.forall_mem_cons.mpr ⟨lw_p31, fun _ h => absurd h List.not_mem_nil⟩⟩⟩⟩⟩⟩⟩⟩⟩⟩⟩⟩⟩⟩⟩⟩
theorem lw_p32 : lw_okq (⟨"TornBagModel", "takes", "(I)V"⟩, 19) := ⟨⟨by decide +kernel, by decide +kernel⟩, List.mem_of_getElem? (i := 960) (by decide +kernel), List.mem_of_getElem? (i := 1139) (by decide +kernel), List.mem_of_getElem? (i := 1140) (by decide +kernel)⟩
theorem lw_p33 : lw_okq (⟨"TornBagModel", "readsThing", "()V"⟩, 19) := ⟨⟨by decide +kernel, by decide +kernel⟩, List.mem_of_getElem? (i := 960) (by decide +kernel), List.mem_of_getElem? (i := 1143) (by decide +kernel), List.mem_of_getElem? (i := 1144) (by decide +kernel)⟩
theorem lw_p34 : lw_okq (⟨"TornBagModel", "number", "()I"⟩, 19) := ⟨⟨by decide +kernel, by decide +kernel⟩, List.mem_of_getElem? (i := 960) (by decide +kernel), List.mem_of_getElem? (i := 1147) (by decide +kernel), List.mem_of_getElem? (i := 1148) (by decide +kernel)⟩
theorem lw_p35 : lw_okq (⟨"TornBagModel", "part", "(II)I"⟩, 19) := ⟨⟨by decide +kernel, by decide +kernel⟩, List.mem_of_getElem? (i := 960) (by decide +kernel), List.mem_of_getElem? (i := 1151) (by decide +kernel), List.mem_of_getElem? (i := 1152) (by decide +kernel)⟩
theorem lw_p36 : lw_okq (⟨"TornBagModel", "digit", "(I)I"⟩, 19) := ⟨⟨by decide +kernel, by decide +kernel⟩, List.mem_of_getElem? (i := 960) (by decide +kernel), List.mem_of_getElem? (i := 1155) (by decide +kernel), List.mem_of_getElem? (i := 1156) (by decide +kernel)⟩
theorem lw_p37 : lw_okq (⟨"TornBagModel", "onGround", "()I"⟩, 19) := ⟨⟨by decide +kernel, by decide +kernel⟩, List.mem_of_getElem? (i := 960) (by decide +kernel), List.mem_of_getElem? (i := 1167) (by decide +kernel), List.mem_of_getElem? (i := 1168) (by decide +kernel)⟩
theorem lw_p38 : lw_okq (⟨"TornBagModel", "busesLeft", "()I"⟩, 19) := ⟨⟨by decide +kernel, by decide +kernel⟩, List.mem_of_getElem? (i := 960) (by decide +kernel), List.mem_of_getElem? (i := 1171) (by decide +kernel), List.mem_of_getElem? (i := 1172) (by decide +kernel)⟩
theorem lw_p39 : lw_okq (⟨"TornBagModel", "notes", "()V"⟩, 19) := ⟨⟨by decide +kernel, by decide +kernel⟩, List.mem_of_getElem? (i := 960) (by decide +kernel), List.mem_of_getElem? (i := 1179) (by decide +kernel), List.mem_of_getElem? (i := 1180) (by decide +kernel)⟩
theorem lw_p40 : lw_okq (⟨"TornBagModel", "goes", "([II)I"⟩, 19) := ⟨⟨by decide +kernel, by decide +kernel⟩, List.mem_of_getElem? (i := 960) (by decide +kernel), List.mem_of_getElem? (i := 1187) (by decide +kernel), List.mem_of_getElem? (i := 1188) (by decide +kernel)⟩
theorem lw_p41 : lw_okq (⟨"TornBagModel", "holdsTried", "(I)I"⟩, 19) := ⟨⟨by decide +kernel, by decide +kernel⟩, List.mem_of_getElem? (i := 960) (by decide +kernel), List.mem_of_getElem? (i := 1219) (by decide +kernel), List.mem_of_getElem? (i := 1220) (by decide +kernel)⟩
theorem lw_p42 : lw_okq (⟨"TornBagModel", "orNone", "(I)I"⟩, 19) := ⟨⟨by decide +kernel, by decide +kernel⟩, List.mem_of_getElem? (i := 960) (by decide +kernel), List.mem_of_getElem? (i := 1223) (by decide +kernel), List.mem_of_getElem? (i := 1224) (by decide +kernel)⟩
theorem lw_p43 : lw_okq (⟨"TornBagModel", "holdsBy", "(I)Z"⟩, 19) := ⟨⟨by decide +kernel, by decide +kernel⟩, List.mem_of_getElem? (i := 960) (by decide +kernel), List.mem_of_getElem? (i := 1231) (by decide +kernel), List.mem_of_getElem? (i := 1232) (by decide +kernel)⟩
theorem lw_p44 : lw_okq (⟨"TornBagModel", "power", "(II)I"⟩, 19) := ⟨⟨by decide +kernel, by decide +kernel⟩, List.mem_of_getElem? (i := 960) (by decide +kernel), List.mem_of_getElem? (i := 1242) (by decide +kernel), List.mem_of_getElem? (i := 1243) (by decide +kernel)⟩
theorem lw_p45 : lw_okq (⟨"TornBagModel", "packs", "(II)V"⟩, 19) := ⟨⟨by decide +kernel, by decide +kernel⟩, List.mem_of_getElem? (i := 960) (by decide +kernel), List.mem_of_getElem? (i := 1246) (by decide +kernel), List.mem_of_getElem? (i := 1247) (by decide +kernel)⟩
theorem lw_p46 : lw_okq (⟨"TornBagModel", "worthOf", "(I)I"⟩, 19) := ⟨⟨by decide +kernel, by decide +kernel⟩, List.mem_of_getElem? (i := 960) (by decide +kernel), List.mem_of_getElem? (i := 1258) (by decide +kernel), List.mem_of_getElem? (i := 1259) (by decide +kernel)⟩
theorem lw_p47 : lw_okq (⟨"TornBagModel", "holdsWithout", "(I)Z"⟩, 19) := ⟨⟨by decide +kernel, by decide +kernel⟩, List.mem_of_getElem? (i := 960) (by decide +kernel), List.mem_of_getElem? (i := 1262) (by decide +kernel), List.mem_of_getElem? (i := 1263) (by decide +kernel)⟩
def lw_privs_3 : List (MethodName × Nat) := [(⟨"TornBagModel", "takes", "(I)V"⟩, 19), (⟨"TornBagModel", "readsThing", "()V"⟩, 19), (⟨"TornBagModel", "number", "()I"⟩, 19), (⟨"TornBagModel", "part", "(II)I"⟩, 19), (⟨"TornBagModel", "digit", "(I)I"⟩, 19), (⟨"TornBagModel", "onGround", "()I"⟩, 19), (⟨"TornBagModel", "busesLeft", "()I"⟩, 19), (⟨"TornBagModel", "notes", "()V"⟩, 19), (⟨"TornBagModel", "goes", "([II)I"⟩, 19), (⟨"TornBagModel", "holdsTried", "(I)I"⟩, 19), (⟨"TornBagModel", "orNone", "(I)I"⟩, 19), (⟨"TornBagModel", "holdsBy", "(I)Z"⟩, 19), (⟨"TornBagModel", "power", "(II)I"⟩, 19), (⟨"TornBagModel", "packs", "(II)V"⟩, 19), (⟨"TornBagModel", "worthOf", "(I)I"⟩, 19), (⟨"TornBagModel", "holdsWithout", "(I)Z"⟩, 19)]
theorem lw_r3 : ∀ q ∈ lw_privs_3, lw_okq q := List.forall_mem_cons.mpr ⟨lw_p32, List.forall_mem_cons.mpr ⟨lw_p33, List.forall_mem_cons.mpr ⟨lw_p34, List.forall_mem_cons.mpr ⟨lw_p35, List.forall_mem_cons.mpr ⟨lw_p36, List.forall_mem_cons.mpr ⟨lw_p37, List.forall_mem_cons.mpr ⟨lw_p38, List.forall_mem_cons.mpr ⟨lw_p39, List.forall_mem_cons.mpr ⟨lw_p40, List.forall_mem_cons.mpr ⟨lw_p41, List.forall_mem_cons.mpr ⟨lw_p42, List.forall_mem_cons.mpr ⟨lw_p43, List.forall_mem_cons.mpr ⟨lw_p44, List.forall_mem_cons.mpr ⟨lw_p45, List.forall_mem_cons.mpr ⟨lw_p46, List.forall_mem_cons.mpr ⟨lw_p47, fun _ h => absurd h List.not_mem_nil⟩⟩⟩⟩⟩⟩⟩⟩⟩⟩⟩⟩⟩⟩⟩⟩
theorem lw_p48 : lw_okq (⟨"TornBagModel", "isRolling", "(I)Z"⟩, 19) := ⟨⟨by decide +kernel, by decide +kernel⟩, List.mem_of_getElem? (i := 960) (by decide +kernel), List.mem_of_getElem? (i := 1270) (by decide +kernel), List.mem_of_getElem? (i := 1271) (by decide +kernel)⟩
theorem lw_p49 : lw_okq (⟨"TornBagModel", "rollsBy", "(I)I"⟩, 19) := ⟨⟨by decide +kernel, by decide +kernel⟩, List.mem_of_getElem? (i := 960) (by decide +kernel), List.mem_of_getElem? (i := 1274) (by decide +kernel), List.mem_of_getElem? (i := 1275) (by decide +kernel)⟩
theorem lw_p50 : lw_okq (⟨"TornBagModel", "orders", "(II)Z"⟩, 19) := ⟨⟨by decide +kernel, by decide +kernel⟩, List.mem_of_getElem? (i := 960) (by decide +kernel), List.mem_of_getElem? (i := 1282) (by decide +kernel), List.mem_of_getElem? (i := 1283) (by decide +kernel)⟩
theorem lw_p51 : lw_okq (⟨"TornBagModel", "hadBy", "(I)I"⟩, 19) := ⟨⟨by decide +kernel, by decide +kernel⟩, List.mem_of_getElem? (i := 960) (by decide +kernel), List.mem_of_getElem? (i := 1286) (by decide +kernel), List.mem_of_getElem? (i := 1287) (by decide +kernel)⟩
theorem lw_p52 : lw_okq (⟨"TornBagModel", "tiredBy", "(III)I"⟩, 19) := ⟨⟨by decide +kernel, by decide +kernel⟩, List.mem_of_getElem? (i := 960) (by decide +kernel), List.mem_of_getElem? (i := 1294) (by decide +kernel), List.mem_of_getElem? (i := 1295) (by decide +kernel)⟩
theorem lw_p53 : lw_okq (⟨"TornBagModel", "tornAt", "(III)I"⟩, 19) := ⟨⟨by decide +kernel, by decide +kernel⟩, List.mem_of_getElem? (i := 960) (by decide +kernel), List.mem_of_getElem? (i := 1302) (by decide +kernel), List.mem_of_getElem? (i := 1303) (by decide +kernel)⟩
theorem lw_p54 : lw_okq (⟨"TornBagModel", "lacks", "(IIII)I"⟩, 19) := ⟨⟨by decide +kernel, by decide +kernel⟩, List.mem_of_getElem? (i := 960) (by decide +kernel), List.mem_of_getElem? (i := 1324) (by decide +kernel), List.mem_of_getElem? (i := 1325) (by decide +kernel)⟩
theorem lw_p55 : lw_okq (⟨"TornBagModel", "sagsAs", "(IIII)Z"⟩, 19) := ⟨⟨by decide +kernel, by decide +kernel⟩, List.mem_of_getElem? (i := 960) (by decide +kernel), List.mem_of_getElem? (i := 1328) (by decide +kernel), List.mem_of_getElem? (i := 1329) (by decide +kernel)⟩
def lw_privs_4 : List (MethodName × Nat) := [(⟨"TornBagModel", "isRolling", "(I)Z"⟩, 19), (⟨"TornBagModel", "rollsBy", "(I)I"⟩, 19), (⟨"TornBagModel", "orders", "(II)Z"⟩, 19), (⟨"TornBagModel", "hadBy", "(I)I"⟩, 19), (⟨"TornBagModel", "tiredBy", "(III)I"⟩, 19), (⟨"TornBagModel", "tornAt", "(III)I"⟩, 19), (⟨"TornBagModel", "lacks", "(IIII)I"⟩, 19), (⟨"TornBagModel", "sagsAs", "(IIII)Z"⟩, 19)]
theorem lw_r4 : ∀ q ∈ lw_privs_4, lw_okq q := List.forall_mem_cons.mpr ⟨lw_p48, List.forall_mem_cons.mpr ⟨lw_p49, List.forall_mem_cons.mpr ⟨lw_p50, List.forall_mem_cons.mpr ⟨lw_p51, List.forall_mem_cons.mpr ⟨lw_p52, List.forall_mem_cons.mpr ⟨lw_p53, List.forall_mem_cons.mpr ⟨lw_p54, List.forall_mem_cons.mpr ⟨lw_p55, fun _ h => absurd h List.not_mem_nil⟩⟩⟩⟩⟩⟩⟩⟩
def lw_privs : List (MethodName × Nat) := lw_privs_1 ++ (lw_privs_2 ++ (lw_privs_3 ++ (lw_privs_4)))
def lw_tbl : List Cond := k2_sels lw_privs ++ tables_1
theorem lw_privs_ok : ∀ q ∈ lw_privs, lw_okq q := by
  show ∀ q ∈ lw_privs_1 ++ (lw_privs_2 ++ (lw_privs_3 ++ (lw_privs_4))), lw_okq q
  exact List.forall_mem_append.mpr ⟨lw_r1, List.forall_mem_append.mpr ⟨lw_r2, List.forall_mem_append.mpr ⟨lw_r3, lw_r4⟩⟩⟩
def RX0 : String := "TornBag$Bag"
def TX0 : u_T := fun k => match k with
  | 0 => ("TornBag$Bag", "kind", "I", false)
  | 1 => ("TornBag$Bag", "wet", "I", false)
  | 2 => ("TornBag$Bag", "wear", "I", false)
  | 3 => ("TornBag$Bag", "gone", "I", false)
  | 4 => ("TornBag$Bag", "things", "I", false)
  | 5 => ("TornBag$Bag", "weight", "I", false)
  | 6 => ("TornBag$Bag", "damp", "I", false)
  | _ => ("TornBag$Bag", "edges", "I", false)
def tyX0 : Nat → FieldType := fun k => match k with
  | 0 => .int
  | 1 => .int
  | 2 => .int
  | 3 => .int
  | 4 => .int
  | 5 => .int
  | 6 => .int
  | _ => .int
theorem nmX0 : ∀ a, a < 8 → ∀ b, b < 8 → a ≠ b → (TX0 a).2.1 ≠ (TX0 b).2.1 := by decide +kernel
theorem tyX0_ok : ∀ k, k < 8 → parseFieldDescriptor (TX0 k).2.2.1 = some (tyX0 k) := by decide +kernel
def RX1 : String := "TornBag$Chase"
def TX1 : u_T := fun k => match k with
  | 0 => ("TornBag$Chase", "world", "LTornBag$World;", true)
  | 1 => ("TornBag$Chase", "runner", "[I", true)
  | 2 => ("TornBag$Chase", "roll", "[I", true)
  | 3 => ("TornBag$Chase", "runners", "I", false)
  | _ => ("TornBag$Chase", "most", "[I", true)
def tyX1 : Nat → FieldType := fun k => match k with
  | 0 => .object "TornBag$World"
  | 1 => .array .int
  | 2 => .array .int
  | 3 => .int
  | _ => .array .int
theorem nmX1 : ∀ a, a < 5 → ∀ b, b < 5 → a ≠ b → (TX1 a).2.1 ≠ (TX1 b).2.1 := by decide +kernel
theorem tyX1_ok : ∀ k, k < 5 → parseFieldDescriptor (TX1 k).2.2.1 = some (tyX1 k) := by decide +kernel
def RX2 : String := "TornBag$Goods"
def TX2 : u_T := fun k => match k with
  | 0 => ("TornBag$Goods", "kind", "[I", true)
  | 1 => ("TornBag$Goods", "weight", "[I", true)
  | 2 => ("TornBag$Goods", "damp", "[I", true)
  | 3 => ("TornBag$Goods", "edges", "[I", true)
  | 4 => ("TornBag$Goods", "worth", "[I", true)
  | 5 => ("TornBag$Goods", "round", "[I", true)
  | 6 => ("TornBag$Goods", "bags", "I", false)
  | _ => ("TornBag$Goods", "things", "I", false)
def tyX2 : Nat → FieldType := fun k => match k with
  | 0 => .array .int
  | 1 => .array .int
  | 2 => .array .int
  | 3 => .array .int
  | 4 => .array .int
  | 5 => .array .int
  | 6 => .int
  | _ => .int
theorem nmX2 : ∀ a, a < 8 → ∀ b, b < 8 → a ≠ b → (TX2 a).2.1 ≠ (TX2 b).2.1 := by decide +kernel
theorem tyX2_ok : ∀ k, k < 8 → parseFieldDescriptor (TX2 k).2.2.1 = some (tyX2 k) := by decide +kernel
def RX3 : String := "TornBag$Moment"
def TX3 : u_T := fun k => match k with
  | 0 => ("TornBag$Moment", "wet", "[I", true)
  | 1 => ("TornBag$Moment", "wear", "[I", true)
  | 2 => ("TornBag$Moment", "gone", "[I", true)
  | 3 => ("TornBag$Moment", "where", "[I", true)
  | 4 => ("TornBag$Moment", "step", "I", false)
  | _ => ("TornBag$Moment", "draw", "I", false)
def tyX3 : Nat → FieldType := fun k => match k with
  | 0 => .array .int
  | 1 => .array .int
  | 2 => .array .int
  | 3 => .array .int
  | 4 => .int
  | _ => .int
theorem nmX3 : ∀ a, a < 6 → ∀ b, b < 6 → a ≠ b → (TX3 a).2.1 ≠ (TX3 b).2.1 := by decide +kernel
theorem tyX3_ok : ∀ k, k < 6 → parseFieldDescriptor (TX3 k).2.2.1 = some (tyX3 k) := by decide +kernel
def RX4 : String := "TornBag$Outlook"
def TX4 : u_T := fun k => match k with
  | 0 => ("TornBag$Outlook", "world", "LTornBag$World;", true)
  | 1 => ("TornBag$Outlook", "trial", "LTornBag$Bag;", true)
  | 2 => ("TornBag$Outlook", "fallen", "[I", true)
  | 3 => ("TornBag$Outlook", "lucky", "[I", true)
  | 4 => ("TornBag$Outlook", "moved", "[I", true)
  | 5 => ("TornBag$Outlook", "moves", "I", false)
  | 6 => ("TornBag$Outlook", "reach", "[I", true)
  | 7 => ("TornBag$Outlook", "row", "[I", true)
  | 8 => ("TornBag$Outlook", "bestRow", "[I", true)
  | _ => ("TornBag$Outlook", "bestReach", "I", false)
def tyX4 : Nat → FieldType := fun k => match k with
  | 0 => .object "TornBag$World"
  | 1 => .object "TornBag$Bag"
  | 2 => .array .int
  | 3 => .array .int
  | 4 => .array .int
  | 5 => .int
  | 6 => .array .int
  | 7 => .array .int
  | 8 => .array .int
  | _ => .int
theorem nmX4 : ∀ a, a < 10 → ∀ b, b < 10 → a ≠ b → (TX4 a).2.1 ≠ (TX4 b).2.1 := by decide +kernel
theorem tyX4_ok : ∀ k, k < 10 → parseFieldDescriptor (TX4 k).2.2.1 = some (tyX4 k) := by decide +kernel
def RX5 : String := "TornBag$Past"
def TX5 : u_T := fun k => match k with
  | 0 => ("TornBag$Past", "moments", "[LTornBag$Moment;", true)
  | 1 => ("TornBag$Past", "next", "I", false)
  | _ => ("TornBag$Past", "known", "I", false)
def tyX5 : Nat → FieldType := fun k => match k with
  | 0 => .array (.object "TornBag$Moment")
  | 1 => .int
  | _ => .int
theorem nmX5 : ∀ a, a < 3 → ∀ b, b < 3 → a ≠ b → (TX5 a).2.1 ≠ (TX5 b).2.1 := by decide +kernel
theorem tyX5_ok : ∀ k, k < 3 → parseFieldDescriptor (TX5 k).2.2.1 = some (tyX5 k) := by decide +kernel
def RX6 : String := "TornBag$Sheet"
def TX6 : u_T := fun k => match k with
  | 0 => ("TornBag$Sheet", "items", "[J", true)
  | 1 => ("TornBag$Sheet", "isMissing", "Z", false)
  | 2 => ("TornBag$Sheet", "lane", "I", false)
  | _ => ("TornBag$Sheet", "length", "I", false)
def tyX6 : Nat → FieldType := fun k => match k with
  | 0 => .array .long
  | 1 => .boolean
  | 2 => .int
  | _ => .int
theorem nmX6 : ∀ a, a < 4 → ∀ b, b < 4 → a ≠ b → (TX6 a).2.1 ≠ (TX6 b).2.1 := by decide +kernel
theorem tyX6_ok : ∀ k, k < 4 → parseFieldDescriptor (TX6 k).2.2.1 = some (tyX6 k) := by decide +kernel
def RX7 : String := "TornBag$Tape"
def TX7 : u_T := fun k => match k with
  | 0 => ("TornBag$Tape", "letters", "[I", true)
  | 1 => ("TornBag$Tape", "length", "I", false)
  | _ => ("TornBag$Tape", "at", "I", false)
def tyX7 : Nat → FieldType := fun k => match k with
  | 0 => .array .int
  | 1 => .int
  | _ => .int
theorem nmX7 : ∀ a, a < 3 → ∀ b, b < 3 → a ≠ b → (TX7 a).2.1 ≠ (TX7 b).2.1 := by decide +kernel
theorem tyX7_ok : ∀ k, k < 3 → parseFieldDescriptor (TX7 k).2.2.1 = some (tyX7 k) := by decide +kernel
def RX8 : String := "TornBag$Way"
def TX8 : u_T := fun k => match k with
  | 0 => ("TornBag$Way", "sorts", "[I", true)
  | _ => ("TornBag$Way", "length", "I", false)
def tyX8 : Nat → FieldType := fun k => match k with
  | 0 => .array .int
  | _ => .int
theorem nmX8 : ∀ a, a < 2 → ∀ b, b < 2 → a ≠ b → (TX8 a).2.1 ≠ (TX8 b).2.1 := by decide +kernel
theorem tyX8_ok : ∀ k, k < 2 → parseFieldDescriptor (TX8 k).2.2.1 = some (tyX8 k) := by decide +kernel
def RX9 : String := "TornBag$World"
def TX9 : u_T := fun k => match k with
  | 0 => ("TornBag$World", "goods", "LTornBag$Goods;", true)
  | 1 => ("TornBag$World", "way", "LTornBag$Way;", true)
  | 2 => ("TornBag$World", "now", "LTornBag$Moment;", true)
  | _ => ("TornBag$World", "past", "LTornBag$Past;", true)
def tyX9 : Nat → FieldType := fun k => match k with
  | 0 => .object "TornBag$Goods"
  | 1 => .object "TornBag$Way"
  | 2 => .object "TornBag$Moment"
  | _ => .object "TornBag$Past"
theorem nmX9 : ∀ a, a < 4 → ∀ b, b < 4 → a ≠ b → (TX9 a).2.1 ≠ (TX9 b).2.1 := by decide +kernel
theorem tyX9_ok : ∀ k, k < 4 → parseFieldDescriptor (TX9 k).2.2.1 = some (tyX9 k) := by decide +kernel
def RX10 : String := "TornBag"
def TX10 : u_T := fun k => match k with
  | 0 => ("TornBag", "world", "LTornBag$World;", true)
  | 1 => ("TornBag", "kept", "LTornBag$World;", true)
  | 2 => ("TornBag", "isKept", "Z", false)
  | 3 => ("TornBag", "outlook", "LTornBag$Outlook;", true)
  | 4 => ("TornBag", "chase", "LTornBag$Chase;", true)
  | 5 => ("TornBag", "seen", "LTornBag$Bag;", true)
  | 6 => ("TornBag", "tape", "LTornBag$Tape;", true)
  | 7 => ("TornBag", "readWay", "LTornBag$Way;", true)
  | 8 => ("TornBag", "readGoods", "LTornBag$Goods;", true)
  | 9 => ("TornBag", "readWhere", "[I", true)
  | _ => ("TornBag", "sheets", "[LTornBag$Sheet;", true)
def tyX10 : Nat → FieldType := fun k => match k with
  | 0 => .object "TornBag$World"
  | 1 => .object "TornBag$World"
  | 2 => .boolean
  | 3 => .object "TornBag$Outlook"
  | 4 => .object "TornBag$Chase"
  | 5 => .object "TornBag$Bag"
  | 6 => .object "TornBag$Tape"
  | 7 => .object "TornBag$Way"
  | 8 => .object "TornBag$Goods"
  | 9 => .array .int
  | _ => .array (.object "TornBag$Sheet")
theorem nmX10 : ∀ a, a < 11 → ∀ b, b < 11 → a ≠ b → (TX10 a).2.1 ≠ (TX10 b).2.1 := by decide +kernel
theorem tyX10_ok : ∀ k, k < 11 → parseFieldDescriptor (TX10 k).2.2.1 = some (tyX10 k) := by decide +kernel
def RX11 : String := "TornBagModel"
def TX11 : u_T := fun k => match k with
  | 0 => ("TornBagModel", "now", "[I", true)
  | 1 => ("TornBagModel", "tried", "[I", true)
  | 2 => ("TornBagModel", "draft", "[I", true)
  | 3 => ("TornBagModel", "kept", "[I", true)
  | 4 => ("TornBagModel", "isKept", "Z", false)
  | 5 => ("TornBagModel", "tape", "[I", true)
  | 6 => ("TornBagModel", "typed", "I", false)
  | 7 => ("TornBagModel", "lanes", "[I", true)
  | 8 => ("TornBagModel", "sizes", "[I", true)
  | 9 => ("TornBagModel", "items", "[J", true)
  | 10 => ("TornBagModel", "spare", "[J", true)
  | 11 => ("TornBagModel", "at", "I", false)
  | 12 => ("TornBagModel", "faultAt", "I", false)
  | 13 => ("TornBagModel", "gave", "Z", false)
  | 14 => ("TornBagModel", "watched", "I", false)
  | 15 => ("TornBagModel", "fellOfWatched", "I", false)
  | 16 => ("TornBagModel", "rolling", "[I", true)
  | 17 => ("TornBagModel", "order", "[I", true)
  | _ => ("TornBagModel", "bestOrder", "[I", true)
def tyX11 : Nat → FieldType := fun k => match k with
  | 0 => .array .int
  | 1 => .array .int
  | 2 => .array .int
  | 3 => .array .int
  | 4 => .boolean
  | 5 => .array .int
  | 6 => .int
  | 7 => .array .int
  | 8 => .array .int
  | 9 => .array .long
  | 10 => .array .long
  | 11 => .int
  | 12 => .int
  | 13 => .boolean
  | 14 => .int
  | 15 => .int
  | 16 => .array .int
  | 17 => .array .int
  | _ => .array .int
theorem nmX11 : ∀ a, a < 19 → ∀ b, b < 19 → a ≠ b → (TX11 a).2.1 ≠ (TX11 b).2.1 := by decide +kernel
theorem tyX11_ok : ∀ k, k < 19 → parseFieldDescriptor (TX11 k).2.2.1 = some (tyX11 k) := by decide +kernel
abbrev vwCl : List vw_C := [(RX0, TX0, 8), (RX1, TX1, 5), (RX2, TX2, 8), (RX3, TX3, 6), (RX4, TX4, 10), (RX5, TX5, 3), (RX6, TX6, 4), (RX7, TX7, 3), (RX8, TX8, 2), (RX9, TX9, 4), (RX10, TX10, 11), (RX11, TX11, 19)]
def am_T : List Cond := lw_tbl.filter goodWord
end
section
abbrev am_I : Type := Nat × List Int
def iCONST (x0 : Int) : am_I := (0, [x0])
def bPUSH (x0 : Int) : am_I := (1, [x0])
def sPUSH (x0 : Int) : am_I := (2, [x0])
def LDC (x0 x1 x2 : Int) : am_I := (3, [x0, x1, x2])
def LDCW (x0 x1 x2 : Int) : am_I := (4, [x0, x1, x2])
def lCONST (x0 : Int) : am_I := (5, [x0])
def LDC2 (x0 x1 x2 : Int) : am_I := (6, [x0, x1, x2])
def iLD (x0 x1 : Int) : am_I := (7, [x0, x1])
def aLD (x0 x1 : Int) : am_I := (8, [x0, x1])
def lLD (x0 x1 : Int) : am_I := (9, [x0, x1])
def iST (x0 x1 : Int) : am_I := (10, [x0, x1])
def aST (x0 x1 : Int) : am_I := (11, [x0, x1])
def IINC (x0 x1 : Int) : am_I := (12, [x0, x1])
def iADD : am_I := (13, [])
def iSUB : am_I := (14, [])
def iMUL : am_I := (15, [])
def iDIV : am_I := (16, [])
def iREM : am_I := (17, [])
def iNEG : am_I := (18, [])
def iSHL : am_I := (19, [])
def iSHR : am_I := (20, [])
def iUSHR : am_I := (21, [])
def iAND : am_I := (22, [])
def iOR : am_I := (23, [])
def iXOR : am_I := (24, [])
def lADD : am_I := (25, [])
def lMUL : am_I := (26, [])
def lAND : am_I := (27, [])
def lOR : am_I := (28, [])
def lSHL : am_I := (29, [])
def lSHR : am_I := (30, [])
def lCMP : am_I := (31, [])
def ITL : am_I := (32, [])
def LTI : am_I := (33, [])
def ITB : am_I := (34, [])
def ITS : am_I := (35, [])
def POP : am_I := (36, [])
def DUP : am_I := (37, [])
def DUP2 : am_I := (38, [])
def IFC (x0 x1 : Int) : am_I := (39, [x0, x1])
def ICMP (x0 x1 : Int) : am_I := (40, [x0, x1])
def GOTO (x0 : Int) : am_I := (41, [x0])
def TSW (ps : List Int) : am_I := (42, ps)
def LSW (ps : List Int) : am_I := (43, ps)
def gI (x0 x1 x2 x3 : Int) : am_I := (44, [x0, x1, x2, x3])
def gR (x0 x1 x2 x3 : Int) : am_I := (45, [x0, x1, x2, x3])
def pI (x0 x1 x2 x3 : Int) : am_I := (46, [x0, x1, x2, x3])
def pZ (x0 x1 x2 x3 : Int) : am_I := (47, [x0, x1, x2, x3])
def pF (x0 x1 x2 x3 : Int) : am_I := (48, [x0, x1, x2, x3])
def iALD : am_I := (49, [])
def iAST : am_I := (50, [])
def lALD : am_I := (51, [])
def lAST : am_I := (52, [])
def aALD : am_I := (53, [])
def aAST : am_I := (54, [])
def aLEN : am_I := (55, [])
def nARR (x0 : Int) : am_I := (56, [x0])
def ANEW (x0 x1 x2 : Int) : am_I := (57, [x0, x1, x2])
def NEW (x0 x1 x2 : Int) : am_I := (58, [x0, x1, x2])
def CALL (x0 x1 x2 x3 x4 : Int) : am_I := (59, [x0, x1, x2, x3, x4])
def OINI (x0 x1 : Int) : am_I := (60, [x0, x1])
def ACPY (x0 x1 : Int) : am_I := (61, [x0, x1])
def iRET : am_I := (62, [])
def zRET : am_I := (63, [])
def lRET : am_I := (64, [])
def vRET : am_I := (65, [])
def MMAX (x0 x1 : Int) : am_I := (66, [x0, x1])
def MMIN (x0 x1 : Int) : am_I := (67, [x0, x1])
def cd_0 : List am_I := [aLD 0 1, OINI 3 92, aLD 0 1, iCONST 3, nARR 0, pF 2 0 9 93, aLD 0 1, bPUSH 8, nARR 0, pF 2 1 15 96, aLD 0 1, bPUSH 8, nARR 0, pF 2 2 18 99, aLD 0 1, bPUSH 8, nARR 0, pF 2 3 21 102, aLD 0 1, bPUSH 8, nARR 0, pF 2 4 24 105, aLD 0 1, bPUSH 8, nARR 0, pF 2 5 27 109, aLD 0 1, iCONST 0, pI 2 6 30 112, aLD 0 1, iCONST 0, pI 2 7 34 117, vRET]
def cd_1 : List am_I := [aLD 0 1, OINI 3 144, aLD 0 1, bPUSH 20, nARR 0, pF 8 0 9 145, aLD 0 1, iCONST 0, pI 8 1 15 147, vRET]
def cd_2 : List am_I := [aLD 0 1, OINI 3 163, aLD 0 1, iCONST 3, nARR 0, pF 3 0 9 164, aLD 0 1, iCONST 3, nARR 0, pF 3 1 15 167, aLD 0 1, iCONST 3, nARR 0, pF 3 2 18 170, aLD 0 1, bPUSH 8, nARR 0, pF 3 3 21 173, aLD 0 1, iCONST 0, pI 3 4 24 176, aLD 0 1, iCONST 1, pI 3 5 28 180, vRET]
def cd_3 : List am_I := [aLD 0 1, OINI 3 200, aLD 0 1, bPUSH 8, ANEW 0 9 201, pF 5 0 11 204, aLD 0 1, iCONST 0, pI 5 1 17 205, aLD 0 1, iCONST 0, pI 5 2 21 206, iCONST 0, iST 1 1, iLD 1 1, bPUSH 8, ICMP 3 26, aLD 0 1, gR 5 0 11 204, iLD 1 1, NEW 3 9 201, DUP, CALL 2 1 5 24 203, aAST, IINC 1 1, GOTO 14, vRET]
def cd_4 : List am_I := [aLD 0 1, OINI 3 86, aLD 0 1, NEW 2 9 87, DUP, CALL 0 1 5 11 89, pF 9 0 12 216, aLD 0 1, NEW 8 18 139, DUP, CALL 1 1 5 20 141, pF 9 1 21 220, aLD 0 1, NEW 3 25 158, DUP, CALL 2 1 5 27 160, pF 9 2 28 223, aLD 0 1, NEW 5 32 195, DUP, CALL 3 1 4 34 197, pF 9 3 35 226, vRET]
def cd_5 : List am_I := [aLD 0 1, OINI 3 242, aLD 0 1, iCONST 0, pI 0 0 9 243, aLD 0 1, iCONST 0, pI 0 1 15 247, aLD 0 1, iCONST 0, pI 0 2 18 251, aLD 0 1, iCONST 0, pI 0 3 21 254, aLD 0 1, iCONST 0, pI 0 4 24 257, aLD 0 1, iCONST 0, pI 0 5 27 259, aLD 0 1, iCONST 0, pI 0 6 30 261, aLD 0 1, iCONST 0, pI 0 7 33 262, vRET]
def cd_6 : List am_I := [aLD 0 1, OINI 3 285, aLD 0 1, bPUSH 100, nARR 0, pF 7 0 9 286, aLD 0 1, iCONST 0, pI 7 1 15 287, aLD 0 1, iCONST 0, pI 7 2 19 289, vRET]
def cd_7 : List am_I := [aLD 0 1, OINI 3 307, aLD 0 1, bPUSH 24, nARR 1, pF 6 0 9 308, aLD 0 1, iCONST 1, pZ 6 1 15 310, aLD 0 1, iCONST 0, pI 6 2 19 312, aLD 0 1, iCONST 0, pI 6 3 23 314, vRET]
def cd_8 : List am_I := [aLD 0 1, OINI 3 331, aLD 0 1, NEW 0 9 332, DUP, CALL 5 1 5 11 333, pF 4 1 12 335, aLD 0 1, bPUSH 20, nARR 0, pF 4 2 18 336, aLD 0 1, bPUSH 20, nARR 0, pF 4 3 22 338, aLD 0 1, bPUSH 6, nARR 0, pF 4 4 25 339, aLD 0 1, iCONST 0, pI 4 5 28 340, aLD 0 1, sPUSH 192, nARR 0, pF 4 6 32 341, aLD 0 1, bPUSH 6, nARR 0, pF 4 7 35 342, aLD 0 1, bPUSH 6, nARR 0, pF 4 8 38 343, aLD 0 1, bPUSH 99, pI 4 9 41 344, aLD 0 1, aLD 1 1, pF 4 0 44 334, vRET]
def cd_9 : List am_I := [aLD 0 1, OINI 3 372, aLD 0 1, bPUSH 6, nARR 0, pF 1 1 9 374, aLD 0 1, bPUSH 6, nARR 0, pF 1 2 15 375, aLD 0 1, iCONST 0, pI 1 3 18 376, aLD 0 1, bPUSH 64, nARR 0, pF 1 4 22 377, aLD 0 1, aLD 1 1, pF 1 0 25 373, vRET]
def cd_10 : List am_I := [aLD 0 1, OINI 1 78, aLD 0 1, NEW 9 7 81, DUP, CALL 4 1 5 9 83, pF 10 1 10 391, aLD 0 1, iCONST 0, pZ 10 2 16 392, aLD 0 1, NEW 0 20 237, DUP, CALL 5 1 5 22 239, pF 10 5 23 395, aLD 0 1, NEW 7 27 280, DUP, CALL 6 1 5 29 282, pF 10 6 30 396, aLD 0 1, NEW 8 34 297, DUP, CALL 1 1 5 36 298, pF 10 7 37 397, aLD 0 1, NEW 2 41 299, DUP, CALL 0 1 5 43 300, pF 10 8 44 398, aLD 0 1, bPUSH 8, nARR 0, pF 10 9 48 399, aLD 0 1, iCONST 4, ANEW 1 52 301, DUP, iCONST 0, NEW 6 52 301, DUP, CALL 7 1 5 54 304, aAST, DUP, iCONST 1, NEW 6 52 301, DUP, CALL 7 1 5 54 304, aAST, DUP, iCONST 2, NEW 6 52 301, DUP, CALL 7 1 5 54 304, aAST, DUP, iCONST 3, NEW 6 52 301, DUP, CALL 7 1 5 54 304, aAST, pF 10 10 55 400, NEW 9 7 81, DUP, CALL 4 1 5 9 83, aST 1 1, aLD 0 1, aLD 1 1, pF 10 0 59 390, aLD 0 1, NEW 4 62 326, DUP, aLD 1 1, CALL 8 2 4 64 328, pF 10 3 67 393, aLD 0 1, NEW 1 71 367, DUP, aLD 1 1, CALL 9 2 4 73 369, pF 10 4 74 394, vRET]
def cd_11 : List am_I := [aLD 0 1, OINI 1 1020, aLD 0 1, sPUSH 238, nARR 0, pF 11 0 7 1021, aLD 0 1, sPUSH 238, nARR 0, pF 11 1 13 1022, aLD 0 1, sPUSH 238, nARR 0, pF 11 2 16 1023, aLD 0 1, sPUSH 238, nARR 0, pF 11 3 19 1024, aLD 0 1, bPUSH 100, nARR 0, pF 11 5 22 1026, aLD 0 1, iCONST 4, nARR 0, pF 11 7 25 1028, aLD 0 1, iCONST 4, nARR 0, pF 11 8 28 1029, aLD 0 1, bPUSH 96, nARR 1, pF 11 9 31 1030, aLD 0 1, bPUSH 24, nARR 1, pF 11 10 35 1031, aLD 0 1, bPUSH 6, nARR 0, pF 11 16 38 1037, aLD 0 1, bPUSH 6, nARR 0, pF 11 17 41 1038, aLD 0 1, bPUSH 6, nARR 0, pF 11 18 44 1039, aLD 0 1, gR 11 0 7 1021, iCONST 4, iCONST 1, iAST, iCONST 0, iST 1 1, iLD 1 1, iCONST 4, ICMP 3 67, aLD 0 1, gR 11 7 25 1028, iLD 1 1, iCONST (-1), iAST, IINC 1 1, GOTO 57, vRET]
def cd_12 : List am_I := [iLD 0 1, IFC 2 7, iLD 0 1, iLD 1 1, ICMP 3 7, iCONST 1, GOTO 8, iCONST 0, zRET]
def cd_13 : List am_I := [iLD 1 1, iCONST 3, CALL 12 2 1 31 439, IFC 1 5, vRET, aLD 0 1, gR 3 0 9 164, iLD 1 1, iCONST 0, iAST, aLD 0 1, gR 3 1 15 167, iLD 1 1, iCONST 0, iAST, aLD 0 1, gR 3 2 18 170, iLD 1 1, iCONST 0, iAST, vRET]
def cd_14 : List am_I := [aLD 0 1, gI 2 6 30 112, iCONST 3, ICMP 2 5, vRET, aLD 0 1, gR 2 0 9 93, aLD 0 1, gI 2 6 30 112, iLD 1 1, iAST, aLD 0 1, DUP, gI 2 6 30 112, iCONST 1, iADD, pI 2 6 30 112, vRET]
def cd_15 : List am_I := [aLD 0 1, gR 9 2 28 223, aLD 0 1, gR 9 0 12 216, gI 2 6 39 113, CALL 13 2 2 43 435, aLD 0 1, gR 9 0 12 216, iLD 1 1, CALL 14 2 2 47 440, aLD 0 1, gR 9 3 35 226, iCONST 0, pI 5 2 50 207, vRET]
def cd_16 : List am_I := [iLD 1 1, iCONST 4, CALL 12 2 0 78 428, IFC 1 6, iCONST (-1), iRET, aLD 0 1, gR 10 0 59 390, gR 9 0 82 217, gI 2 6 85 114, iCONST 3, ICMP 2 14, bPUSH (-3), iRET, aLD 0 1, gR 10 0 59 390, iLD 1 1, CALL 15 2 2 89 431, aLD 0 1, gR 10 0 59 390, gR 9 0 82 217, gI 2 6 85 114, iCONST 1, iSUB, iRET]
def cd_17 : List am_I := [iLD 0 1, iLD 1 1, ICMP 2 8, iLD 0 1, iLD 2 1, ICMP 4 8, iCONST 1, GOTO 9, iCONST 0, zRET]
def cd_18 : List am_I := [bPUSH 6, iCONST 4, iLD 0 1, iMUL, iADD, iRET]
def cd_19 : List am_I := [aLD 0 1, iCONST 0, iALD, CALL 18 1 0 51 1089, iST 2 1, aLD 0 1, iLD 2 1, iCONST 0, iADD, iLD 1 1, iAST, aLD 0 1, iLD 2 1, iCONST 1, iADD, iCONST 0, iAST, aLD 0 1, iLD 2 1, iCONST 2, iADD, iCONST 0, iAST, aLD 0 1, iLD 2 1, iCONST 3, iADD, iCONST 0, iAST, aLD 0 1, iCONST 0, DUP2, iALD, iCONST 1, iADD, iAST, aLD 0 1, iCONST 5, iCONST 0, iAST, vRET]
def cd_20 : List am_I := [iLD 1 1, iCONST 0, iCONST 3, CALL 17 3 0 47 1083, IFC 1 7, iCONST (-1), iRET, aLD 0 1, gR 11 0 7 1021, iCONST 0, iALD, iCONST 3, ICMP 1 15, bPUSH (-3), iRET, aLD 0 1, gR 11 0 7 1021, iLD 1 1, CALL 19 2 0 55 1086, aLD 0 1, gR 11 0 7 1021, iCONST 0, iALD, iCONST 1, iSUB, iRET]
def cd_21 : List am_I := [iLD 1 1, bPUSH 8, CALL 12 2 1 31 439, IFC 1 6, iCONST (-1), iRET, aLD 0 1, gR 3 3 21 173, iLD 1 1, iALD, iST 3 1, aLD 0 1, gR 3 3 21 173, iLD 1 1, iLD 2 1, iAST, iLD 3 1, iRET]
def cd_22 : List am_I := [aLD 0 1, gI 2 7 34 117, bPUSH 8, ICMP 2 5, vRET, aLD 0 1, gR 2 1 15 96, aLD 0 1, gI 2 7 34 117, iLD 1 1, iAST, aLD 0 1, gR 2 2 18 99, aLD 0 1, gI 2 7 34 117, iLD 2 1, iAST, aLD 0 1, gR 2 3 21 102, aLD 0 1, gI 2 7 34 117, iLD 3 1, iAST, aLD 0 1, gR 2 4 24 105, aLD 0 1, gI 2 7 34 117, iLD 4 0, iAST, aLD 0 1, gR 2 5 27 109, aLD 0 1, gI 2 7 34 117, iLD 5 0, iAST, aLD 0 1, DUP, gI 2 7 34 117, iCONST 1, iADD, pI 2 7 34 117, vRET]
def cd_23 : List am_I := [aLD 0 1, gR 9 2 28 223, aLD 0 1, gR 9 0 12 216, gI 2 7 53 118, iCONST 3, CALL 21 3 2 56 452, POP, aLD 0 1, gR 9 0 12 216, iLD 1 1, iLD 2 1, iLD 3 1, iLD 4 0, iLD 5 0, CALL 22 6 2 60 456, aLD 0 1, gR 9 3 35 226, iCONST 0, pI 5 2 50 207, vRET]
def cd_24 : List am_I := [iLD 1 1, iCONST 1, ICMP 2 14, iLD 1 1, bPUSH 30, ICMP 4 14, iLD 2 1, bPUSH 6, CALL 12 2 0 78 428, IFC 0 14, iLD 3 1, bPUSH 6, CALL 12 2 0 78 428, IFC 1 16, iCONST (-1), iRET, iLD 4 0, bPUSH 100, CALL 12 2 0 78 428, IFC 0 24, iLD 5 0, iCONST 2, CALL 12 2 0 78 428, IFC 1 26, iCONST (-1), iRET, aLD 0 1, gR 10 0 59 390, gR 9 0 82 217, gI 2 7 93 119, bPUSH 8, ICMP 2 34, bPUSH (-3), iRET, aLD 0 1, gR 10 0 59 390, iLD 1 1, iLD 2 1, iLD 3 1, iLD 4 0, iLD 5 0, CALL 23 6 2 96 448, aLD 0 1, gR 10 0 59 390, gR 9 0 82 217, gI 2 7 93 119, iCONST 1, iSUB, iRET]
def cd_25 : List am_I := [bPUSH 18, bPUSH 6, iLD 0 1, iMUL, iADD, iRET]
def cd_26 : List am_I := [iLD 1 1, iCONST 1, bPUSH 30, CALL 17 3 0 47 1083, IFC 0 25, iLD 2 1, iCONST 0, iCONST 5, CALL 17 3 0 47 1083, IFC 0 25, iLD 3 1, iCONST 0, iCONST 5, CALL 17 3 0 47 1083, IFC 0 25, iLD 4 0, iCONST 0, bPUSH 99, CALL 17 3 0 47 1083, IFC 0 25, iLD 5 0, iCONST 0, iCONST 1, CALL 17 3 0 47 1083, IFC 1 27, iCONST (-1), iRET, aLD 0 1, gR 11 0 7 1021, iCONST 1, iALD, bPUSH 8, ICMP 1 35, bPUSH (-3), iRET, aLD 0 1, gR 11 0 7 1021, iCONST 1, iALD, CALL 25 1 0 59 1096, iST 6 0, aLD 0 1, gR 11 0 7 1021, iLD 6 0, iCONST 0, iADD, iLD 1 1, iAST, aLD 0 1, gR 11 0 7 1021, iLD 6 0, iCONST 1, iADD, iLD 2 1, iAST, aLD 0 1, gR 11 0 7 1021, iLD 6 0, iCONST 2, iADD, iLD 3 1, iAST, aLD 0 1, gR 11 0 7 1021, iLD 6 0, iCONST 3, iADD, iLD 4 0, iAST, aLD 0 1, gR 11 0 7 1021, iLD 6 0, iCONST 4, iADD, iLD 5 0, iAST, aLD 0 1, gR 11 0 7 1021, iLD 6 0, iCONST 5, iADD, iCONST 3, iAST, aLD 0 1, gR 11 0 7 1021, iCONST 1, DUP2, iALD, iCONST 1, iADD, iAST, aLD 0 1, gR 11 0 7 1021, iCONST 5, iCONST 0, iAST, aLD 0 1, gR 11 0 7 1021, iCONST 1, iALD, iCONST 1, iSUB, iRET]
def cd_27 : List am_I := [iLD 1 1, aLD 0 1, gI 2 7 34 117, CALL 12 2 1 37 468, zRET]
def cd_28 : List am_I := [iLD 1 1, aLD 0 1, gI 2 6 30 112, CALL 12 2 1 37 468, zRET]
def cd_29 : List am_I := [iLD 0 1, iLD 1 1, iSHR, iCONST 1, iAND, IFC 0 8, iCONST 1, GOTO 9, iCONST 0, zRET]
def cd_30 : List am_I := [iLD 0 1, iCONST 0, CALL 29 2 0 354 476, IFC 1 9, iLD 0 1, bPUSH 6, iAND, bPUSH 6, ICMP 1 11, iCONST 1, GOTO 12, iCONST 0, zRET]
def cd_31 : List am_I := [aLD 0 1, gR 10 0 59 390, gR 9 0 82 217, iLD 1 1, CALL 27 2 2 100 464, IFC 0 12, aLD 0 1, gR 10 0 59 390, gR 9 0 82 217, iLD 2 1, CALL 28 2 2 104 469, IFC 1 14, iCONST (-1), iRET, aLD 0 1, gR 10 0 59 390, gR 9 2 107 225, gR 3 2 111 171, iLD 2 1, iALD, CALL 30 1 0 116 473, IFC 0 24, bPUSH (-2), iRET, aLD 0 1, gR 10 0 59 390, gR 9 2 107 225, iLD 1 1, iLD 2 1, CALL 21 3 2 119 479, iRET]
def cd_32 : List am_I := [iLD 1 1, iCONST 0, aLD 0 1, gR 11 0 7 1021, iCONST 1, iALD, iCONST 1, iSUB, CALL 17 3 0 47 1083, zRET]
def cd_33 : List am_I := [iLD 1 1, iCONST 0, aLD 0 1, gR 11 0 7 1021, iCONST 0, iALD, iCONST 1, iSUB, CALL 17 3 0 47 1083, zRET]
def cd_34 : List am_I := [iLD 0 1, iLD 1 1, iSHR, iCONST 1, iAND, iCONST 1, ICMP 1 9, iCONST 1, GOTO 10, iCONST 0, zRET]
def cd_35 : List am_I := [aLD 0 1, gR 11 0 7 1021, iLD 1 1, CALL 18 1 0 51 1089, iCONST 3, iADD, iALD, iST 2 1, iLD 2 1, iCONST 0, CALL 34 2 0 62 1115, IFC 1 20, iLD 2 1, iCONST 1, CALL 34 2 0 62 1115, IFC 0 22, iLD 2 1, iCONST 2, CALL 34 2 0 62 1115, IFC 0 22, iCONST 1, GOTO 23, iCONST 0, zRET]
def cd_36 : List am_I := [aLD 0 1, iLD 1 1, CALL 32 2 2 66 1103, IFC 0 8, aLD 0 1, iLD 2 1, CALL 33 2 2 70 1107, IFC 1 10, iCONST (-1), iRET, aLD 0 1, iLD 2 1, CALL 35 2 2 73 1111, IFC 0 16, bPUSH (-2), iRET, aLD 0 1, gR 11 0 7 1021, iLD 1 1, CALL 25 1 0 59 1096, iCONST 5, iADD, iALD, iST 3 1, aLD 0 1, gR 11 0 7 1021, iLD 1 1, CALL 25 1 0 59 1096, iCONST 5, iADD, iLD 2 1, iAST, iLD 3 1, iRET]
def cd_37 : List am_I := [aLD 0 1, gR 10 0 59 390, gR 9 0 82 217, iLD 1 1, CALL 27 2 2 100 464, IFC 1 8, iCONST (-1), iRET, aLD 0 1, gR 10 0 59 390, gR 9 2 107 225, iLD 1 1, iCONST 3, CALL 21 3 2 119 479, iRET]
def cd_38 : List am_I := [aLD 0 1, iLD 1 1, CALL 32 2 2 66 1103, IFC 1 6, iCONST (-1), iRET, aLD 0 1, gR 11 0 7 1021, iLD 1 1, CALL 25 1 0 59 1096, iCONST 5, iADD, iALD, iST 2 1, aLD 0 1, gR 11 0 7 1021, iLD 1 1, CALL 25 1 0 59 1096, iCONST 5, iADD, iCONST 3, iAST, iLD 2 1, iRET]
def cd_39 : List am_I := [iCONST 0, iST 2 1, iCONST 0, iST 3 1, iLD 3 1, aLD 0 1, gR 9 0 12 216, gI 2 7 53 118, ICMP 3 24, aLD 0 1, gR 9 2 28 223, gR 3 3 74 174, iLD 3 1, iALD, iLD 1 1, ICMP 1 22, iLD 2 1, iCONST 1, iLD 3 1, iSHL, iOR, iST 2 1, IINC 3 1, GOTO 4, iLD 2 1, iRET]
def cd_40 : List am_I := [iCONST 0, iST 2 1, iCONST 0, iST 3 1, iLD 3 1, aLD 0 1, aLEN, ICMP 3 20, iLD 1 1, iLD 3 1, CALL 29 2 0 354 476, IFC 0 18, iLD 2 1, aLD 0 1, iLD 3 1, iALD, iADD, iST 2 1, IINC 3 1, GOTO 4, iLD 2 1, iRET]
def cd_41 : List am_I := [aLD 0 1, iLD 2 1, pI 0 4 24 257, aLD 0 1, aLD 1 1, gR 2 1 36 97, iLD 2 1, CALL 40 2 1 41 501, pI 0 5 27 259, aLD 0 1, aLD 1 1, gR 2 2 45 100, iLD 2 1, CALL 40 2 1 41 501, pI 0 6 30 261, aLD 0 1, aLD 1 1, gR 2 3 47 103, iLD 2 1, CALL 40 2 1 41 501, pI 0 7 33 262, vRET]
def cd_42 : List am_I := [aLD 0 1, gR 9 0 12 216, iLD 2 1, CALL 28 2 2 120 496, IFC 1 6, vRET, aLD 1 1, aLD 0 1, gR 9 0 12 216, gR 2 0 123 95, iLD 2 1, iALD, pI 0 0 126 246, aLD 1 1, aLD 0 1, gR 9 2 28 223, gR 3 0 130 166, iLD 2 1, iALD, pI 0 1 133 249, aLD 1 1, aLD 0 1, gR 9 2 28 223, gR 3 1 135 169, iLD 2 1, iALD, pI 0 2 138 253, aLD 1 1, aLD 0 1, gR 9 2 28 223, gR 3 2 114 172, iLD 2 1, iALD, pI 0 3 140 256, aLD 1 1, aLD 0 1, gR 9 0 12 216, iLD 3 1, CALL 41 3 2 142 497, vRET]
def cd_43 : List am_I := [aLD 0 1, gI 0 1 15 247, aLD 0 1, gI 0 2 18 251, iADD, bPUSH 10, iDIV, iRET]
def cd_44 : List am_I := [aLD 0 1, gR 10 0 59 390, gR 9 0 82 217, iLD 1 1, CALL 28 2 2 104 469, IFC 1 8, iCONST (-1), iRET, aLD 0 1, gR 10 0 59 390, aLD 0 1, gR 10 5 23 395, iLD 1 1, aLD 0 1, gR 10 0 59 390, iLD 1 1, CALL 39 2 2 123 488, CALL 42 4 2 127 492, iLD 2 1, TSW [0, 6, 48, 20, 24, 28, 32, 36, 40, 44], aLD 0 1, gR 10 5 23 395, gI 0 0 131 245, iRET, aLD 0 1, gR 10 5 23 395, gI 0 1 134 248, iRET, aLD 0 1, gR 10 5 23 395, gI 0 2 137 252, iRET, aLD 0 1, gR 10 5 23 395, gI 0 3 140 255, iRET, aLD 0 1, gR 10 5 23 395, gI 0 4 142 258, iRET, aLD 0 1, gR 10 5 23 395, gI 0 5 143 260, iRET, aLD 0 1, gR 10 5 23 395, CALL 43 1 2 146 504, iRET, iCONST (-1), iRET]
def cd_45 : List am_I := [iCONST 0, iST 2 1, iCONST 0, iST 3 1, iLD 3 1, aLD 0 1, iCONST 1, iALD, ICMP 3 27, iLD 2 1, aLD 0 1, iLD 3 1, CALL 25 1 0 59 1096, iCONST 5, iADD, iALD, iLD 1 1, ICMP 1 22, iCONST 1, iLD 3 1, iSHL, GOTO 23, iCONST 0, iOR, iST 2 1, IINC 3 1, GOTO 4, iLD 2 1, iRET]
def cd_46 : List am_I := [iCONST 0, iST 3 1, iCONST 0, iST 4 0, iLD 4 0, aLD 0 1, iCONST 1, iALD, ICMP 3 30, iLD 3 1, aLD 0 1, iLD 4 0, CALL 25 1 0 59 1096, iCONST 5, iADD, iALD, iLD 1 1, ICMP 1 25, aLD 0 1, iLD 4 0, CALL 25 1 0 59 1096, iLD 2 1, iADD, iALD, GOTO 26, iCONST 0, iADD, iST 3 1, IINC 4 1, GOTO 4, iLD 3 1, iRET]
def cd_47 : List am_I := [aLD 0 1, iLD 1 1, CALL 18 1 0 51 1089, iCONST 1, iADD, iALD, aLD 0 1, iLD 1 1, CALL 18 1 0 51 1089, iCONST 2, iADD, iALD, iADD, bPUSH 10, iDIV, iRET]
def cd_48 : List am_I := [aLD 0 1, iLD 1 1, CALL 33 2 2 70 1107, IFC 0 9, iLD 2 1, iCONST 0, bPUSH 6, CALL 17 3 0 47 1083, IFC 1 11, iCONST (-1), iRET, iLD 2 1, iCONST 4, ICMP 3 22, aLD 0 1, gR 11 0 7 1021, iLD 1 1, CALL 18 1 0 51 1089, iLD 2 1, iADD, iALD, GOTO 43, iLD 2 1, iCONST 4, ICMP 1 30, aLD 0 1, gR 11 0 7 1021, iLD 1 1, CALL 45 2 0 76 1126, GOTO 43, iLD 2 1, iCONST 5, ICMP 1 39, aLD 0 1, gR 11 0 7 1021, iLD 1 1, iCONST 0, CALL 46 3 0 80 1129, GOTO 43, aLD 0 1, gR 11 0 7 1021, iLD 1 1, CALL 47 2 0 84 1132, iRET]
def cd_49 : List am_I := [iLD 1 1, IFC 1 12, bPUSH 90, aLD 0 1, gI 0 2 18 251, iSUB, iCONST 2, aLD 0 1, gI 0 1 15 247, iMUL, iSUB, iRET, iLD 1 1, iCONST 3, ICMP 1 23, bPUSH 90, aLD 0 1, gI 0 2 18 251, iSUB, aLD 0 1, gI 0 1 15 247, iSUB, iRET, bPUSH 60, aLD 0 1, gI 0 2 18 251, iSUB, aLD 0 1, gI 0 1 15 247, iSUB, iRET]
def cd_50 : List am_I := [iLD 1 1, iCONST 3, ICMP 1 5, bPUSH 50, GOTO 6, bPUSH 70, iCONST 2, aLD 0 1, gI 0 2 18 251, iMUL, iSUB, iRET]
def cd_51 : List am_I := [aLD 0 1, gI 0 0 9 243, TSW [0, 2, 23, 3, 9, 17], iCONST 0, aLD 0 1, iLD 1 1, CALL 49 2 2 49 516, MMAX 53 520, iRET, iCONST 0, aLD 0 1, iLD 1 1, CALL 49 2 2 49 516, bPUSH 40, iADD, MMAX 53 520, iRET, iCONST 0, aLD 0 1, iLD 1 1, CALL 50 2 2 59 523, MMAX 53 520, iRET, iCONST 0, aLD 0 1, iLD 1 1, CALL 50 2 2 59 523, aLD 0 1, gI 0 2 18 251, iADD, bPUSH 30, iADD, MMAX 53 520, iRET]
def cd_52 : List am_I := [aLD 0 1, gR 10 0 59 390, gR 9 0 82 217, iLD 1 1, CALL 28 2 2 104 469, IFC 0 10, iLD 2 1, iCONST 4, CALL 12 2 0 78 428, IFC 1 12, iCONST (-1), iRET, aLD 0 1, gR 10 0 59 390, aLD 0 1, gR 10 5 23 395, iLD 1 1, aLD 0 1, gR 10 0 59 390, iLD 1 1, CALL 39 2 2 123 488, CALL 42 4 2 127 492, aLD 0 1, gR 10 5 23 395, iLD 2 1, CALL 51 2 2 150 512, iRET]
def cd_53 : List am_I := [iLD 1 1, CALL 18 1 0 51 1089, iST 3 1, aLD 0 1, iLD 3 1, iCONST 0, iADD, iALD, iST 4 0, iLD 4 0, iCONST 1, ICMP 4 53, bPUSH 90, aLD 0 1, iLD 3 1, iCONST 2, iADD, iALD, iSUB, iLD 2 1, IFC 1 23, iCONST 2, GOTO 24, iCONST 1, aLD 0 1, iLD 3 1, iCONST 1, iADD, iALD, iMUL, iSUB, iST 5 0, iLD 5 0, iLD 2 1, iCONST 1, iCONST 2, CALL 17 3 0 47 1083, IFC 0 40, bPUSH 30, GOTO 41, iCONST 0, iSUB, iST 5 0, iLD 5 0, iLD 4 0, iCONST 1, ICMP 1 49, bPUSH 40, GOTO 50, iCONST 0, iADD, iST 5 0, GOTO 85, bPUSH 70, iCONST 2, aLD 0 1, iLD 3 1, iCONST 2, iADD, iALD, iMUL, iSUB, iLD 2 1, iCONST 3, ICMP 1 67, bPUSH 20, GOTO 68, iCONST 0, iSUB, iST 5 0, iLD 5 0, iLD 4 0, iCONST 3, ICMP 1 82, aLD 0 1, iLD 3 1, iCONST 2, iADD, iALD, bPUSH 30, iADD, GOTO 83, iCONST 0, iADD, iST 5 0, iLD 5 0, IFC 3 89, iCONST 0, GOTO 90, iLD 5 0, iRET]
def cd_54 : List am_I := [aLD 0 1, iLD 1 1, CALL 33 2 2 70 1107, IFC 0 15, iLD 2 1, iCONST 0, iCONST 3, CALL 17 3 0 47 1083, IFC 0 15, aLD 0 1, gR 11 0 7 1021, iLD 1 1, iLD 2 1, CALL 53 3 0 87 1139, GOTO 16, iCONST (-1), iRET]
def cd_55 : List am_I := [iLD 0 1, iLD 0 1, iCONST 1, iUSHR, LDCW 1431655765 265 538, iAND, iSUB, iST 0 1, iLD 0 1, LDCW 858993459 266 539, iAND, iLD 0 1, iCONST 2, iUSHR, LDCW 858993459 266 539, iAND, iADD, iST 0 1, iLD 0 1, iLD 0 1, iCONST 4, iUSHR, iADD, LDCW 252645135 267 540, iAND, iST 0 1, iLD 0 1, iLD 0 1, bPUSH 8, iUSHR, iADD, iST 0 1, iLD 0 1, iLD 0 1, bPUSH 16, iUSHR, iADD, iST 0 1, iLD 0 1, bPUSH 63, iAND, iRET]
def cd_56 : List am_I := [iLD 1 1, iCONST 3, ICMP 1 8, iCONST 3, aLD 0 1, gI 0 7 33 262, iMUL, iRET, aLD 0 1, gI 0 5 27 259, bPUSH 10, iLD 2 1, iADD, iMUL, bPUSH 10, iDIV, iST 3 1, iLD 1 1, IFC 1 21, iLD 3 1, iRET, iCONST 2, aLD 0 1, gI 0 3 21 254, bPUSH 6, iAND, CALL 55 1 0 62 535, iSUB, iST 4 0, iLD 4 0, IFC 4 33, iCONST 0, GOTO 36, iLD 3 1, iLD 4 0, iDIV, iRET]
def cd_57 : List am_I := [aLD 0 1, gR 10 0 59 390, gR 9 0 82 217, iLD 1 1, CALL 28 2 2 104 469, IFC 0 14, iLD 2 1, iCONST 4, CALL 12 2 0 78 428, IFC 0 14, iLD 3 1, bPUSH 8, CALL 12 2 0 78 428, IFC 1 16, iCONST (-1), iRET, aLD 0 1, gR 10 0 59 390, aLD 0 1, gR 10 5 23 395, iLD 1 1, aLD 0 1, gR 10 0 59 390, iLD 1 1, CALL 39 2 2 123 488, CALL 42 4 2 127 492, aLD 0 1, gR 10 5 23 395, iLD 2 1, iLD 3 1, CALL 56 3 2 153 531, iRET]
def cd_58 : List am_I := [iLD 2 1, iCONST 3, ICMP 1 10, iCONST 3, aLD 0 1, iLD 1 1, iCONST 2, CALL 46 3 0 80 1129, iMUL, iRET, aLD 0 1, iLD 1 1, iCONST 0, CALL 46 3 0 80 1129, bPUSH 10, iLD 3 1, iADD, iMUL, bPUSH 10, iDIV, iST 4 0, aLD 0 1, iLD 1 1, CALL 18 1 0 51 1089, iCONST 3, iADD, iALD, iST 5 0, iLD 5 0, iCONST 1, CALL 34 2 0 62 1115, IFC 0 34, iCONST 0, GOTO 35, iCONST 1, iLD 5 0, iCONST 2, CALL 34 2 0 62 1115, IFC 0 41, iCONST 0, GOTO 42, iCONST 1, iADD, iST 6 0, iLD 2 1, IFC 1 48, iLD 4 0, GOTO 55, iLD 6 0, IFC 1 52, iCONST 0, GOTO 55, iLD 4 0, iLD 6 0, iDIV, iRET]
def cd_59 : List am_I := [aLD 0 1, iLD 1 1, CALL 33 2 2 70 1107, IFC 0 21, iLD 2 1, iCONST 0, iCONST 3, CALL 17 3 0 47 1083, IFC 0 21, iLD 3 1, iCONST 0, bPUSH 7, CALL 17 3 0 47 1083, IFC 0 21, aLD 0 1, gR 11 0 7 1021, iLD 1 1, iLD 2 1, iLD 3 1, CALL 58 4 0 90 1146, GOTO 22, iCONST (-1), iRET]
def cd_60 : List am_I := [aLD 0 1, gR 10 0 59 390, gR 9 0 82 217, aST 3 1, aLD 3 1, iLD 1 1, CALL 27 2 2 100 464, IFC 1 10, iCONST (-1), iRET, iLD 2 1, TSW [0, 5, 44, 12, 17, 22, 27, 32, 37], aLD 3 1, gR 2 1 156 98, iLD 1 1, iALD, iRET, aLD 3 1, gR 2 2 158 101, iLD 1 1, iALD, iRET, aLD 3 1, gR 2 3 161 104, iLD 1 1, iALD, iRET, aLD 3 1, gR 2 4 164 107, iLD 1 1, iALD, iRET, aLD 3 1, gR 2 5 167 110, iLD 1 1, iALD, iRET, aLD 0 1, gR 10 0 59 390, gR 9 2 107 225, gR 3 3 170 175, iLD 1 1, iALD, iRET, iCONST (-1), iRET]
def cd_61 : List am_I := [aLD 0 1, iLD 1 1, CALL 32 2 2 66 1103, IFC 0 17, iLD 2 1, iCONST 0, iCONST 5, CALL 17 3 0 47 1083, IFC 0 17, aLD 0 1, gR 11 0 7 1021, iLD 1 1, CALL 25 1 0 59 1096, iLD 2 1, iADD, iALD, GOTO 18, iCONST (-1), iRET]
def cd_62 : List am_I := [aLD 0 1, gR 10 0 59 390, gR 9 0 82 217, iLD 1 1, CALL 28 2 2 104 469, IFC 0 14, iLD 2 1, iCONST 2, CALL 12 2 0 78 428, IFC 0 14, iLD 3 1, sPUSH 1000, CALL 12 2 0 78 428, IFC 1 16, iCONST (-1), iRET, iLD 2 1, IFC 1 23, aLD 0 1, gR 10 0 59 390, gR 9 2 107 225, gR 3 0 173 165, GOTO 27, aLD 0 1, gR 10 0 59 390, gR 9 2 107 225, gR 3 1 175 168, aST 4 0, aLD 4 0, iLD 1 1, iALD, iST 5 0, aLD 4 0, iLD 1 1, iLD 3 1, iAST, iLD 5 0, iRET]
def cd_63 : List am_I := [aLD 0 1, iLD 1 1, CALL 33 2 2 70 1107, IFC 0 14, iLD 2 1, iCONST 0, iCONST 1, CALL 17 3 0 47 1083, IFC 0 14, iLD 3 1, iCONST 0, sPUSH 999, CALL 17 3 0 47 1083, IFC 1 16, iCONST (-1), iRET, aLD 0 1, gR 11 0 7 1021, iLD 1 1, CALL 18 1 0 51 1089, iCONST 1, iADD, iLD 2 1, iADD, iALD, iST 4 0, aLD 0 1, gR 11 0 7 1021, iLD 1 1, CALL 18 1 0 51 1089, iCONST 1, iADD, iLD 2 1, iADD, iLD 3 1, iAST, iLD 4 0, iRET]
def cd_64 : List am_I := [aLD 0 1, gI 7 1 15 287, bPUSH 100, ICMP 2 5, vRET, aLD 0 1, gR 7 0 9 286, aLD 0 1, gI 7 1 15 287, iLD 1 1, iAST, aLD 0 1, DUP, gI 7 1 15 287, iCONST 1, iADD, pI 7 1 15 287, vRET]
def cd_65 : List am_I := [iLD 1 1, bPUSH 32, ICMP 2 6, iLD 1 1, bPUSH 126, ICMP 5 8, iCONST (-1), iRET, aLD 0 1, gR 10 6 30 396, gI 7 1 177 288, bPUSH 100, ICMP 2 15, bPUSH (-3), iRET, aLD 0 1, gR 10 6 30 396, iLD 1 1, CALL 64 2 2 180 553, aLD 0 1, gR 10 6 30 396, gI 7 1 177 288, iRET]
def cd_66 : List am_I := [iLD 1 1, bPUSH 32, bPUSH 126, CALL 17 3 0 47 1083, IFC 1 7, iCONST (-1), iRET, aLD 0 1, gI 11 6 94 1027, bPUSH 100, ICMP 1 13, bPUSH (-3), iRET, aLD 0 1, gR 11 5 22 1026, aLD 0 1, gI 11 6 94 1027, iLD 1 1, iAST, aLD 0 1, DUP, gI 11 6 94 1027, iCONST 1, iADD, pI 11 6 94 1027, aLD 0 1, gI 11 6 94 1027, iRET]
def cd_67 : List am_I := [aLD 0 1, gI 7 2 19 289, aLD 0 1, gI 7 1 15 287, ICMP 3 23, aLD 0 1, gI 7 2 19 289, bPUSH 100, ICMP 3 23, aLD 0 1, gR 7 0 9 286, aLD 0 1, gI 7 2 19 289, iALD, bPUSH 32, ICMP 1 23, aLD 0 1, DUP, gI 7 2 19 289, iCONST 1, iADD, pI 7 2 19 289, GOTO 0, aLD 0 1, gI 7 2 19 289, aLD 0 1, gI 7 1 15 287, ICMP 3 38, aLD 0 1, gI 7 2 19 289, bPUSH 100, ICMP 3 38, aLD 0 1, gR 7 0 9 286, aLD 0 1, gI 7 2 19 289, iALD, GOTO 39, iCONST (-1), iRET]
def cd_68 : List am_I := [iLD 0 1, LSW [12, 46, 2, 98, 8, 100, 6, 115, 10, 117, 4], iCONST 0, iRET, iCONST 1, iRET, iCONST 2, iRET, iCONST 3, iRET, iCONST 4, iRET, iCONST (-1), iRET]
def cd_69 : List am_I := [bPUSH (-20), aLD 0 1, gI 7 2 19 289, iSUB, iRET]
def cd_70 : List am_I := [aLD 0 1, iCONST 0, pI 7 2 19 289, iCONST 0, iST 2 1, iLD 2 1, bPUSH 20, ICMP 3 41, aLD 0 1, CALL 67 1 2 22 565, CALL 68 1 0 26 569, iST 3 1, iLD 3 1, IFC 3 15, GOTO 41, aLD 1 1, gR 8 0 30 146, iLD 2 1, iLD 3 1, iAST, aLD 1 1, iLD 2 1, iCONST 1, iADD, pI 8 1 35 148, aLD 0 1, DUP, gI 7 2 19 289, iCONST 1, iADD, pI 7 2 19 289, aLD 0 1, CALL 67 1 2 22 565, iCONST (-1), ICMP 1 39, iLD 2 1, iCONST 1, iADD, iRET, IINC 2 1, GOTO 5, aLD 0 1, CALL 69 1 2 36 572, iRET]
def cd_71 : List am_I := [aLD 1 1, iCONST 0, aLD 0 1, iCONST 0, aLD 1 1, aLEN, aLD 0 1, aLEN, MMIN 302 587, ACPY 348 590, vRET]
def cd_72 : List am_I := [aLD 0 1, gR 8 0 9 145, aLD 1 1, gR 8 0 9 145, CALL 71 2 1 23 584, aLD 0 1, aLD 1 1, gI 8 1 15 147, pI 8 1 15 147, vRET]
def cd_73 : List am_I := [aLD 0 1, gR 9 1 21 220, aLD 1 1, CALL 72 2 2 64 580, aLD 0 1, gR 9 2 28 223, iCONST 0, pI 3 4 68 178, aLD 0 1, gR 9 3 35 226, iCONST 0, pI 5 2 50 207, vRET]
def cd_74 : List am_I := [aLD 0 1, gR 10 6 30 396, aLD 0 1, gR 10 7 37 397, CALL 70 2 2 183 561, iST 1 1, aLD 0 1, gR 10 6 30 396, iCONST 0, pI 7 1 177 288, iLD 1 1, IFC 2 17, aLD 0 1, gR 10 0 59 390, aLD 0 1, gR 10 7 37 397, CALL 73 2 2 186 576, iLD 1 1, iRET]
def cd_75 : List am_I := [aLD 0 1, gI 11 11 98 1032, aLD 0 1, gI 11 6 94 1027, ICMP 3 19, aLD 0 1, gR 11 5 22 1026, aLD 0 1, gI 11 11 98 1032, iALD, bPUSH 32, ICMP 1 19, aLD 0 1, DUP, gI 11 11 98 1032, iCONST 1, iADD, pI 11 11 98 1032, GOTO 0, aLD 0 1, gI 11 11 98 1032, aLD 0 1, gI 11 6 94 1027, ICMP 3 30, aLD 0 1, gR 11 5 22 1026, aLD 0 1, gI 11 11 98 1032, iALD, GOTO 31, iCONST (-1), iRET]
def cd_76 : List am_I := [iLD 0 1, bPUSH 46, ICMP 1 5, iCONST 0, GOTO 26, iLD 0 1, bPUSH 117, ICMP 1 10, iCONST 1, GOTO 26, iLD 0 1, bPUSH 100, ICMP 1 15, iCONST 2, GOTO 26, iLD 0 1, bPUSH 98, ICMP 1 20, iCONST 3, GOTO 26, iLD 0 1, bPUSH 115, ICMP 1 25, iCONST 4, GOTO 26, iCONST (-1), iRET]
def cd_77 : List am_I := [aLD 0 1, aLD 0 1, gI 11 12 101 1033, IFC 3 6, iLD 1 1, GOTO 8, aLD 0 1, gI 11 12 101 1033, pI 11 12 101 1033, vRET]
def cd_78 : List am_I := [aLD 0 1, iCONST 0, pI 11 11 98 1032, aLD 0 1, iCONST (-1), pI 11 12 101 1033, iCONST 0, iST 1 1, iCONST 0, iST 2 1, iLD 2 1, bPUSH 20, ICMP 3 33, aLD 0 1, CALL 75 1 2 104 1165, CALL 76 1 0 108 1169, iST 3 1, iLD 3 1, IFC 2 31, aLD 0 1, gR 11 2 16 1023, iLD 1 1, iLD 3 1, iAST, IINC 1 1, aLD 0 1, DUP, gI 11 11 98 1032, iCONST 1, iADD, pI 11 11 98 1032, IINC 2 1, GOTO 10, aLD 0 1, CALL 75 1 2 104 1165, IFC 3 38, iLD 1 1, IFC 1 42, aLD 0 1, aLD 0 1, gI 11 11 98 1032, CALL 77 2 2 111 1172, aLD 0 1, iCONST 0, pI 11 6 94 1027, aLD 0 1, gI 11 12 101 1033, IFC 2 53, bPUSH (-20), aLD 0 1, gI 11 12 101 1033, iSUB, iRET, iCONST 0, iST 2 1, iLD 2 1, bPUSH 20, ICMP 3 75, aLD 0 1, gR 11 0 7 1021, bPUSH 66, iLD 2 1, iADD, iLD 2 1, iLD 1 1, ICMP 3 71, aLD 0 1, gR 11 2 16 1023, iLD 2 1, iALD, GOTO 72, iCONST 0, iAST, IINC 2 1, GOTO 55, aLD 0 1, gR 11 0 7 1021, iCONST 2, iLD 1 1, iAST, aLD 0 1, gR 11 0 7 1021, iCONST 3, iCONST 0, iAST, aLD 0 1, gR 11 0 7 1021, iCONST 5, iCONST 0, iAST, iLD 1 1, iRET]
def cd_79 : List am_I := [iCONST 0, iST 2 1, aLD 0 1, aLEN, iST 3 1, iLD 2 1, iLD 3 1, ICMP 3 14, aLD 0 1, iLD 2 1, iLD 1 1, iAST, IINC 2 1, GOTO 5, vRET]
def cd_80 : List am_I := [iLD 0 1, LSW [10, 67, 8, 68, 4, 80, 2, 84, 6], iCONST 0, iRET, iCONST 1, iRET, iCONST 2, iRET, iCONST 3, iRET, iCONST (-1), iRET]
def cd_81 : List am_I := [iCONST 0, iST 2 1, iLD 2 1, iCONST 3, ICMP 3 52, aLD 0 1, CALL 67 1 2 22 565, CALL 80 1 0 61 608, iST 3 1, iLD 3 1, IFC 3 13, iCONST 0, zRET, aLD 1 1, iLD 3 1, CALL 14 2 2 64 611, aLD 0 1, DUP, gI 7 2 19 289, iCONST 1, iADD, pI 7 2 19 289, aLD 0 1, CALL 67 1 2 22 565, iST 4 0, iLD 4 0, bPUSH 59, ICMP 1 36, aLD 0 1, DUP, gI 7 2 19 289, iCONST 1, iADD, pI 7 2 19 289, iCONST 1, zRET, iLD 4 0, bPUSH 44, ICMP 1 42, iLD 2 1, iCONST 2, ICMP 1 44, iCONST 0, zRET, aLD 0 1, DUP, gI 7 2 19 289, iCONST 1, iADD, pI 7 2 19 289, IINC 2 1, GOTO 2, iCONST 0, zRET]
def cd_82 : List am_I := [aLD 0 1, CALL 67 1 2 22 565, POP, aLD 0 1, gI 7 2 19 289, iST 1 1, iCONST 0, iST 2 1, aLD 0 1, gI 7 2 19 289, aLD 0 1, gI 7 1 15 287, ICMP 3 52, aLD 0 1, gI 7 2 19 289, bPUSH 100, ICMP 3 52, aLD 0 1, gR 7 0 9 286, aLD 0 1, gI 7 2 19 289, iALD, bPUSH 48, ICMP 2 52, aLD 0 1, gR 7 0 9 286, aLD 0 1, gI 7 2 19 289, iALD, bPUSH 57, ICMP 4 52, bPUSH 99, iLD 2 1, bPUSH 10, iMUL, aLD 0 1, gR 7 0 9 286, aLD 0 1, gI 7 2 19 289, iALD, iADD, bPUSH 48, iSUB, MMIN 83 624, iST 2 1, aLD 0 1, DUP, gI 7 2 19 289, iCONST 1, iADD, pI 7 2 19 289, GOTO 8, iLD 2 1, iCONST 1, ICMP 2 60, iLD 2 1, bPUSH 30, ICMP 4 60, iLD 2 1, iRET, aLD 0 1, iLD 1 1, pI 7 2 19 289, iCONST (-1), iRET]
def cd_83 : List am_I := [aLD 0 1, CALL 67 1 2 22 565, iLD 1 1, ICMP 0 6, iLD 3 1, iRET, aLD 0 1, DUP, gI 7 2 19 289, iCONST 1, iADD, pI 7 2 19 289, aLD 0 1, CALL 67 1 2 22 565, bPUSH 48, iSUB, iST 4 0, iLD 4 0, iLD 2 1, CALL 12 2 1 89 629, IFC 1 23, iCONST (-1), iRET, aLD 0 1, DUP, gI 7 2 19 289, iCONST 1, iADD, pI 7 2 19 289, iLD 4 0, iRET]
def cd_84 : List am_I := [aLD 0 1, CALL 82 1 2 72 620, iST 2 1, iLD 2 1, IFC 3 7, iCONST (-1), iRET, aLD 0 1, bPUSH 119, bPUSH 6, iCONST 0, CALL 83 4 2 75 625, iST 3 1, iLD 3 1, IFC 3 17, iCONST (-1), iRET, aLD 0 1, bPUSH 101, bPUSH 6, iCONST 0, CALL 83 4 2 75 625, iST 4 0, iLD 4 0, IFC 3 27, iCONST (-1), iRET, aLD 0 1, CALL 67 1 2 22 565, bPUSH 114, ICMP 1 33, iCONST 1, GOTO 34, iCONST 0, iST 5 0, aLD 0 1, DUP, gI 7 2 19 289, iLD 5 0, iADD, pI 7 2 19 289, aLD 0 1, bPUSH 64, aLD 1 1, gI 2 6 39 116, iCONST 3, CALL 83 4 2 75 625, iST 6 0, iLD 6 0, IFC 3 52, iCONST (-1), iRET, aLD 1 1, iLD 2 1, iLD 3 1, iLD 4 0, iLD 2 1, iLD 5 0, CALL 22 6 2 79 630, iLD 6 0, iRET]
def cd_85 : List am_I := [iCONST 0, iST 3 1, iLD 3 1, aLD 2 1, aLEN, ICMP 3 45, aLD 2 1, iLD 3 1, aLD 0 1, aLD 1 1, CALL 84 2 2 68 616, iAST, aLD 2 1, iLD 3 1, iALD, IFC 3 18, iCONST 0, zRET, aLD 0 1, CALL 67 1 2 22 565, iST 4 0, iLD 4 0, iCONST (-1), ICMP 1 26, iCONST 1, zRET, iLD 4 0, bPUSH 44, ICMP 1 35, iLD 3 1, aLD 2 1, aLEN, iCONST 1, iSUB, ICMP 1 37, iCONST 0, zRET, aLD 0 1, DUP, gI 7 2 19 289, iCONST 1, iADD, pI 7 2 19 289, IINC 3 1, GOTO 2, iCONST 0, zRET]
def cd_86 : List am_I := [aLD 0 1, iCONST 0, pI 7 2 19 289, aLD 1 1, iCONST 0, pI 2 6 39 116, aLD 1 1, iCONST 0, pI 2 7 44 120, aLD 2 1, iCONST 3, CALL 79 2 0 47 601, aLD 0 1, aLD 1 1, CALL 81 2 2 53 604, IFC 0 21, aLD 0 1, aLD 1 1, aLD 2 1, CALL 85 3 2 57 612, IFC 1 24, aLD 0 1, CALL 69 1 2 36 572, iRET, aLD 1 1, gI 2 7 44 120, iRET]
def cd_87 : List am_I := [aLD 0 1, gR 2 0 9 93, aLD 1 1, gR 2 0 9 93, CALL 71 2 1 41 639, aLD 0 1, gR 2 1 15 96, aLD 1 1, gR 2 1 15 96, CALL 71 2 1 41 639, aLD 0 1, gR 2 2 18 99, aLD 1 1, gR 2 2 18 99, CALL 71 2 1 41 639, aLD 0 1, gR 2 3 21 102, aLD 1 1, gR 2 3 21 102, CALL 71 2 1 41 639, aLD 0 1, gR 2 4 24 105, aLD 1 1, gR 2 4 24 105, CALL 71 2 1 41 639, aLD 0 1, gR 2 5 27 109, aLD 1 1, gR 2 5 27 109, CALL 71 2 1 41 639, aLD 0 1, aLD 1 1, gI 2 6 30 112, pI 2 6 30 112, aLD 0 1, aLD 1 1, gI 2 7 34 117, pI 2 7 34 117, vRET]
def cd_88 : List am_I := [aLD 0 1, gR 9 0 12 216, aLD 1 1, CALL 87 2 2 71 635, aLD 0 1, gR 9 2 28 223, gR 3 3 74 174, aLD 2 1, CALL 71 2 1 78 640, iCONST 0, iST 3 1, iLD 3 1, iCONST 3, ICMP 3 20, aLD 0 1, gR 9 2 28 223, iLD 3 1, CALL 13 2 2 43 435, IINC 3 1, GOTO 11, aLD 0 1, gR 9 3 35 226, iCONST 0, pI 5 2 50 207, vRET]
def cd_89 : List am_I := [aLD 0 1, gR 10 6 30 396, aLD 0 1, gR 10 8 44 398, aLD 0 1, gR 10 9 48 399, CALL 86 3 2 190 597, iST 1 1, aLD 0 1, gR 10 6 30 396, iCONST 0, pI 7 1 177 288, iLD 1 1, IFC 2 21, aLD 0 1, gR 10 0 59 390, aLD 0 1, gR 10 8 44 398, aLD 0 1, gR 10 9 48 399, CALL 88 3 2 194 631, iLD 1 1, iRET]
def cd_90 : List am_I := [iCONST 0, iST 2 1, iLD 2 1, sPUSH 238, ICMP 3 13, aLD 1 1, iLD 2 1, aLD 0 1, iLD 2 1, iALD, iAST, IINC 2 1, GOTO 2, vRET]
def cd_91 : List am_I := [iLD 0 1, bPUSH 80, ICMP 1 5, iCONST 0, GOTO 21, iLD 0 1, bPUSH 68, ICMP 1 10, iCONST 1, GOTO 21, iLD 0 1, bPUSH 84, ICMP 1 15, iCONST 2, GOTO 21, iLD 0 1, bPUSH 67, ICMP 1 20, iCONST 3, GOTO 21, iCONST (-1), iRET]
def cd_92 : List am_I := [aLD 0 1, CALL 75 1 2 104 1165, CALL 91 1 0 115 1191, iST 1 1, iLD 1 1, IFC 3 11, aLD 0 1, aLD 0 1, gI 11 11 98 1032, CALL 77 2 2 111 1172, vRET, aLD 0 1, DUP, gI 11 11 98 1032, iCONST 1, iADD, pI 11 11 98 1032, aLD 0 1, gR 11 2 16 1023, iLD 1 1, CALL 19 2 0 55 1086, vRET]
def cd_93 : List am_I := [aLD 0 1, CALL 75 1 2 104 1165, iLD 1 1, ICMP 1 11, aLD 0 1, DUP, gI 11 11 98 1032, iCONST 1, iADD, pI 11 11 98 1032, GOTO 15, aLD 0 1, aLD 0 1, gI 11 11 98 1032, CALL 77 2 2 111 1172, vRET]
def cd_94 : List am_I := [aLD 0 1, CALL 75 1 2 104 1165, POP, aLD 0 1, gI 11 11 98 1032, iST 1 1, iCONST 0, iST 2 1, aLD 0 1, gI 11 11 98 1032, aLD 0 1, gI 11 6 94 1027, ICMP 3 46, aLD 0 1, gR 11 5 22 1026, aLD 0 1, gI 11 11 98 1032, iALD, bPUSH 48, bPUSH 57, CALL 17 3 0 47 1083, IFC 0 46, iLD 2 1, bPUSH 99, ICMP 5 27, iLD 2 1, GOTO 38, bPUSH 10, iLD 2 1, iMUL, aLD 0 1, gR 11 5 22 1026, aLD 0 1, gI 11 11 98 1032, iALD, iADD, bPUSH 48, iSUB, iST 2 1, aLD 0 1, DUP, gI 11 11 98 1032, iCONST 1, iADD, pI 11 11 98 1032, GOTO 8, iLD 2 1, iCONST 1, bPUSH 30, CALL 17 3 0 47 1083, IFC 1 54, aLD 0 1, iLD 1 1, CALL 77 2 2 111 1172, iLD 2 1, iRET]
def cd_95 : List am_I := [aLD 0 1, CALL 75 1 2 104 1165, bPUSH 48, iSUB, iST 2 1, iLD 2 1, iCONST 0, iLD 1 1, CALL 17 3 0 47 1083, IFC 1 16, aLD 0 1, aLD 0 1, gI 11 11 98 1032, CALL 77 2 2 111 1172, iCONST 0, iRET, aLD 0 1, DUP, gI 11 11 98 1032, iCONST 1, iADD, pI 11 11 98 1032, iLD 2 1, iRET]
def cd_96 : List am_I := [aLD 0 1, gI 11 12 101 1033, IFC 3 7, aLD 0 1, CALL 75 1 2 104 1165, iLD 1 1, ICMP 0 9, iCONST 0, iRET, aLD 0 1, DUP, gI 11 11 98 1032, iCONST 1, iADD, pI 11 11 98 1032, aLD 0 1, iLD 2 1, CALL 95 2 2 118 1210, iRET]
def cd_97 : List am_I := [aLD 0 1, gR 11 2 16 1023, iCONST 1, iALD, CALL 25 1 0 59 1096, iST 1 1, aLD 0 1, CALL 94 1 2 121 1202, iST 2 1, aLD 0 1, gR 11 2 16 1023, iLD 1 1, iCONST 0, iADD, iLD 2 1, iAST, aLD 0 1, gR 11 2 16 1023, iLD 1 1, iCONST 3, iADD, iLD 2 1, iAST, aLD 0 1, gR 11 2 16 1023, iLD 1 1, iCONST 1, iADD, aLD 0 1, bPUSH 119, iCONST 5, CALL 96 3 2 124 1206, iAST, aLD 0 1, gR 11 2 16 1023, iLD 1 1, iCONST 2, iADD, aLD 0 1, bPUSH 101, iCONST 5, CALL 96 3 2 124 1206, iAST, aLD 0 1, gI 11 12 101 1033, IFC 3 52, aLD 0 1, CALL 75 1 2 104 1165, bPUSH 114, ICMP 1 52, iCONST 1, GOTO 53, iCONST 0, iST 3 1, aLD 0 1, DUP, gI 11 11 98 1032, iLD 3 1, IFC 0 61, iCONST 1, GOTO 62, iCONST 0, iADD, pI 11 11 98 1032, aLD 0 1, gR 11 2 16 1023, iLD 1 1, iCONST 4, iADD, iLD 3 1, IFC 0 73, iCONST 1, GOTO 74, iCONST 0, iAST, aLD 0 1, gI 11 12 101 1033, IFC 3 84, aLD 0 1, CALL 75 1 2 104 1165, bPUSH 64, ICMP 1 84, iCONST 1, GOTO 85, iCONST 0, iST 4 0, aLD 0 1, bPUSH 64, aLD 0 1, gR 11 2 16 1023, iCONST 0, iALD, iCONST 1, iSUB, CALL 96 3 2 124 1206, iST 5 0, aLD 0 1, gR 11 2 16 1023, iLD 1 1, iCONST 5, iADD, iLD 4 0, IFC 0 105, iLD 5 0, GOTO 106, iCONST 3, iAST, aLD 0 1, gR 11 2 16 1023, iCONST 1, DUP2, iALD, iCONST 1, iADD, iAST, vRET]
def cd_98 : List am_I := [aLD 0 1, CALL 92 1 2 128 1187, aLD 0 1, gI 11 12 101 1033, IFC 3 24, aLD 0 1, gR 11 2 16 1023, iCONST 0, iALD, iCONST 3, ICMP 3 24, aLD 0 1, CALL 75 1 2 104 1165, bPUSH 44, ICMP 1 24, aLD 0 1, DUP, gI 11 11 98 1032, iCONST 1, iADD, pI 11 11 98 1032, aLD 0 1, CALL 92 1 2 128 1187, GOTO 2, aLD 0 1, bPUSH 59, CALL 93 2 2 131 1194, aLD 0 1, gI 11 12 101 1033, IFC 3 32, aLD 0 1, CALL 97 1 2 134 1198, aLD 0 1, gI 11 12 101 1033, IFC 3 54, aLD 0 1, gR 11 2 16 1023, iCONST 1, iALD, bPUSH 8, ICMP 3 54, aLD 0 1, CALL 75 1 2 104 1165, bPUSH 44, ICMP 1 54, aLD 0 1, DUP, gI 11 11 98 1032, iCONST 1, iADD, pI 11 11 98 1032, aLD 0 1, CALL 97 1 2 134 1198, GOTO 32, aLD 0 1, CALL 75 1 2 104 1165, IFC 2 61, aLD 0 1, aLD 0 1, gI 11 11 98 1032, CALL 77 2 2 111 1172, vRET]
def cd_99 : List am_I := [aLD 0 1, gR 11 0 7 1021, aLD 0 1, gR 11 2 16 1023, CALL 90 2 0 137 1180, aLD 0 1, gR 11 2 16 1023, iCONST 0, iCONST 0, iAST, aLD 0 1, gR 11 2 16 1023, iCONST 1, iCONST 0, iAST, aLD 0 1, gR 11 2 16 1023, iCONST 5, iCONST 0, iAST, aLD 0 1, iCONST 0, pI 11 11 98 1032, aLD 0 1, iCONST (-1), pI 11 12 101 1033, aLD 0 1, CALL 98 1 2 141 1183, aLD 0 1, iCONST 0, pI 11 6 94 1027, aLD 0 1, gI 11 12 101 1033, IFC 2 39, bPUSH (-20), aLD 0 1, gI 11 12 101 1033, iSUB, iRET, aLD 0 1, gR 11 2 16 1023, aLD 0 1, gR 11 0 7 1021, CALL 90 2 0 137 1180, aLD 0 1, gR 11 0 7 1021, iCONST 1, iALD, iRET]
def cd_100 : List am_I := [iLD 1 1, IFC 2 14, iLD 1 1, aLD 0 1, gI 8 1 15 147, ICMP 3 14, iLD 1 1, bPUSH 20, ICMP 3 14, aLD 0 1, gR 8 0 9 145, iLD 1 1, iALD, GOTO 15, iCONST (-1), iRET]
def cd_101 : List am_I := [iLD 1 1, aLD 0 1, gR 10 0 59 390, gR 9 1 198 222, gI 8 1 201 152, CALL 12 2 0 78 428, IFC 0 13, aLD 0 1, gR 10 0 59 390, gR 9 1 198 222, iLD 1 1, CALL 100 2 2 202 645, GOTO 14, iCONST (-1), iRET]
def cd_102 : List am_I := [iLD 1 1, iCONST 0, aLD 0 1, gR 11 0 7 1021, iCONST 2, iALD, iCONST 1, iSUB, CALL 17 3 0 47 1083, IFC 0 17, aLD 0 1, gR 11 0 7 1021, bPUSH 66, iLD 1 1, iADD, iALD, GOTO 18, iCONST (-1), iRET]
def cd_103 : List am_I := [iCONST 0, iST 1 1, iCONST 0, iST 2 1, iLD 2 1, aLD 0 1, gR 9 0 12 216, gI 2 7 53 118, ICMP 3 24, aLD 0 1, gR 9 2 28 223, gR 3 3 74 174, iLD 2 1, iALD, bPUSH 10, ICMP 2 22, iLD 1 1, iCONST 1, iLD 2 1, iSHL, iOR, iST 1 1, IINC 2 1, GOTO 4, iLD 1 1, iRET]
def cd_104 : List am_I := [iCONST 0, iST 2 1, iLD 1 1, iST 3 1, iLD 3 1, aLD 0 1, gI 8 1 15 147, ICMP 3 16, aLD 0 1, iLD 3 1, CALL 100 2 2 19 662, iCONST 3, ICMP 1 14, IINC 2 1, IINC 3 1, GOTO 4, iLD 2 1, iRET]
def cd_105 : List am_I := [iLD 1 1, TSW [0, 6, 41, 2, 7, 12, 17, 22, 27, 32], aLD 0 1, gR 10 0 59 390, gR 9 0 82 217, gI 2 6 85 114, iRET, aLD 0 1, gR 10 0 59 390, gR 9 0 82 217, gI 2 7 93 119, iRET, aLD 0 1, gR 10 0 59 390, gR 9 1 198 222, gI 8 1 201 152, iRET, aLD 0 1, gR 10 0 59 390, gR 9 2 107 225, gI 3 4 205 179, iRET, aLD 0 1, gR 10 0 59 390, CALL 103 1 2 208 653, CALL 55 1 0 211 657, iRET, aLD 0 1, gR 10 0 59 390, gR 9 3 216 227, gI 5 2 220 208, iRET, aLD 0 1, gR 10 0 59 390, gR 9 1 198 222, aLD 0 1, gR 10 0 59 390, gR 9 2 107 225, gI 3 4 205 179, CALL 104 2 2 225 658, iRET, iCONST (-1), iRET]
def cd_106 : List am_I := [iCONST 0, iST 1 1, iCONST 0, iST 2 1, iLD 2 1, aLD 0 1, gR 11 0 7 1021, iCONST 1, iALD, ICMP 3 27, iLD 1 1, aLD 0 1, gR 11 0 7 1021, iLD 2 1, CALL 25 1 0 59 1096, iCONST 5, iADD, iALD, bPUSH 10, ICMP 2 22, iCONST 1, GOTO 23, iCONST 0, iADD, iST 1 1, IINC 2 1, GOTO 4, iLD 1 1, iRET]
def cd_107 : List am_I := [iCONST 0, iST 1 1, aLD 0 1, gR 11 0 7 1021, iCONST 3, iALD, iST 2 1, iLD 2 1, aLD 0 1, gR 11 0 7 1021, iCONST 2, iALD, ICMP 3 29, iLD 1 1, aLD 0 1, gR 11 0 7 1021, bPUSH 66, iLD 2 1, iADD, iALD, iCONST 3, ICMP 1 24, iCONST 1, GOTO 25, iCONST 0, iADD, iST 1 1, IINC 2 1, GOTO 7, iLD 1 1, iRET]
def cd_108 : List am_I := [iLD 1 1, iCONST 0, bPUSH 6, CALL 17 3 0 47 1083, IFC 1 7, iCONST (-1), iRET, iLD 1 1, iCONST 4, ICMP 3 15, aLD 0 1, gR 11 0 7 1021, iLD 1 1, iALD, GOTO 31, iLD 1 1, iCONST 4, ICMP 1 21, aLD 0 1, CALL 106 1 2 144 1222, GOTO 31, iLD 1 1, iCONST 5, ICMP 1 29, aLD 0 1, gR 11 0 7 1021, iCONST 5, iALD, GOTO 31, aLD 0 1, CALL 107 1 2 147 1226, iRET]
def cd_109 : List am_I := [iCONST 0, aLD 0 1, gR 9 1 21 220, gI 8 1 88 150, aLD 0 1, gR 9 2 28 223, gI 3 4 68 178, iSUB, MMAX 91 671, iRET]
def cd_110 : List am_I := [aLD 0 1, gR 3 0 9 164, aLD 1 1, gR 3 0 9 164, CALL 71 2 1 38 684, aLD 0 1, gR 3 1 15 167, aLD 1 1, gR 3 1 15 167, CALL 71 2 1 38 684, aLD 0 1, gR 3 2 18 170, aLD 1 1, gR 3 2 18 170, CALL 71 2 1 38 684, aLD 0 1, gR 3 3 21 173, aLD 1 1, gR 3 3 21 173, CALL 71 2 1 38 684, aLD 0 1, aLD 1 1, gI 3 4 24 176, pI 3 4 24 176, aLD 0 1, aLD 1 1, gI 3 5 28 180, pI 3 5 28 180, vRET]
def cd_111 : List am_I := [aLD 0 1, gR 5 0 11 204, aLD 0 1, gI 5 1 17 205, aALD, aLD 1 1, CALL 110 2 2 25 680, aLD 0 1, aLD 0 1, gI 5 1 17 205, iCONST 1, iADD, bPUSH 8, iREM, pI 5 1 17 205, aLD 0 1, aLD 0 1, gI 5 2 21 206, iCONST 1, iADD, bPUSH 8, MMIN 29 685, pI 5 2 21 206, vRET]
def cd_112 : List am_I := [aLD 0 1, aLD 0 1, gI 3 5 28 180, LDC 1103515245 35 691, iMUL, sPUSH 12345, iADD, LDC 2147483647 36 692, iAND, pI 3 5 28 180, aLD 0 1, gI 3 5 28 180, LDC 65536 37 693, iDIV, bPUSH 8, iREM, iRET]
def cd_113 : List am_I := [aLD 0 1, iLD 1 1, CALL 100 2 2 19 662, TSW [1, 3, 10, 4, 6, 8], iCONST 2, iRET, iCONST 3, iRET, iLD 2 1, iRET, iCONST 0, iRET]
def cd_114 : List am_I := [aLD 0 1, gI 0 4 24 257, IFC 1 4, vRET, aLD 0 1, sPUSH 999, aLD 0 1, gI 0 1 15 247, aLD 0 1, gI 0 6 30 261, iADD, MMIN 77 708, pI 0 1 15 247, aLD 0 1, sPUSH 999, aLD 0 1, gI 0 2 18 251, iLD 1 1, iCONST 4, ICMP 1 22, iCONST 2, GOTO 26, iCONST 1, aLD 0 1, gI 0 7 33 262, iADD, iADD, MMIN 77 708, pI 0 2 18 251, vRET]
def cd_115 : List am_I := [iLD 1 1, iCONST 4, ICMP 1 5, iCONST (-1), iRET, iCONST 0, iST 3 1, iLD 3 1, iCONST 4, ICMP 3 27, aLD 0 1, gI 0 3 21 254, iLD 3 1, CALL 29 2 1 67 713, IFC 1 25, aLD 0 1, iLD 3 1, iLD 2 1, CALL 56 3 2 71 714, aLD 0 1, iLD 3 1, CALL 51 2 2 74 715, ICMP 5 25, iLD 3 1, iRET, IINC 3 1, GOTO 7, iCONST (-1), iRET]
def cd_116 : List am_I := [iLD 0 1, iLD 0 1, iNEG, iAND, iRET]
def cd_117 : List am_I := [iLD 1 1, iCONST 3, ICMP 1 7, aLD 0 1, gI 0 4 24 257, CALL 116 1 0 94 720, iRET, aLD 0 1, gI 0 3 21 254, CALL 30 1 1 97 723, IFC 0 14, aLD 0 1, gI 0 4 24 257, GOTO 15, iCONST 0, iRET]
def cd_118 : List am_I := [aLD 0 1, gI 0 4 24 257, IFC 1 5, iCONST 0, iRET, aLD 0 1, iLD 2 1, CALL 114 2 2 80 704, aLD 0 1, iLD 2 1, iLD 3 1, CALL 115 3 2 84 709, iST 4 0, iLD 4 0, IFC 3 17, iCONST 0, iRET, aLD 0 1, DUP, gI 0 3 21 254, iCONST 1, iLD 4 0, iSHL, iOR, pI 0 3 21 254, aLD 0 1, iLD 4 0, CALL 117 2 2 87 716, iST 5 0, iLD 5 0, IFC 0 40, aLD 0 1, aLD 1 1, aLD 0 1, gI 0 4 24 257, iLD 5 0, iCONST (-1), iXOR, iAND, CALL 41 3 2 90 724, iLD 5 0, iRET]
def cd_119 : List am_I := [aLD 0 1, gR 9 3 35 226, aLD 0 1, gR 9 2 28 223, CALL 111 2 2 146 676, aLD 0 1, gR 9 1 21 220, aLD 0 1, gR 9 2 28 223, gI 3 4 68 178, CALL 100 2 2 149 686, iST 2 1, iLD 2 1, iCONST 3, ICMP 1 19, aLD 0 1, gR 9 2 28 223, CALL 112 1 2 152 687, GOTO 26, aLD 0 1, gR 9 1 21 220, aLD 0 1, gR 9 2 28 223, gI 3 4 68 178, iCONST 0, CALL 113 3 2 155 694, iST 3 1, iCONST 0, iST 4 0, iCONST 0, iST 5 0, iLD 5 0, aLD 0 1, gR 9 0 12 216, gI 2 6 39 113, ICMP 3 75, aLD 0 1, aLD 1 1, iLD 5 0, aLD 0 1, iLD 5 0, CALL 39 2 2 158 698, CALL 42 4 2 161 699, iLD 4 0, aLD 1 1, aLD 0 1, gR 9 0 12 216, iLD 2 1, iLD 3 1, CALL 118 4 2 165 700, iOR, iST 4 0, aLD 0 1, gR 9 2 28 223, gR 3 0 130 166, iLD 5 0, aLD 1 1, gI 0 1 133 249, iAST, aLD 0 1, gR 9 2 28 223, gR 3 1 135 169, iLD 5 0, aLD 1 1, gI 0 2 138 253, iAST, aLD 0 1, gR 9 2 28 223, gR 3 2 114 172, iLD 5 0, aLD 1 1, gI 0 3 140 256, iAST, IINC 5 1, GOTO 31, iCONST 0, iST 5 0, iLD 5 0, aLD 0 1, gR 9 0 12 216, gI 2 7 53 118, ICMP 3 98, iLD 4 0, iLD 5 0, CALL 29 2 1 169 725, IFC 0 96, aLD 0 1, gR 9 2 28 223, gR 3 3 74 174, iLD 5 0, bPUSH 10, aLD 0 1, gR 9 2 28 223, gI 3 4 68 178, iADD, iAST, IINC 5 1, GOTO 77, aLD 0 1, gR 9 2 28 223, DUP, gI 3 4 68 178, iCONST 1, iADD, pI 3 4 68 178, iLD 4 0, iRET]
def cd_120 : List am_I := [aLD 0 1, gR 10 0 59 390, CALL 109 1 2 228 667, IFC 1 6, bPUSH (-2), iRET, aLD 0 1, gR 10 0 59 390, aLD 0 1, gR 10 5 23 395, CALL 119 2 2 231 672, iRET]
def cd_121 : List am_I := [aLD 0 1, gR 11 0 7 1021, iCONST 5, iALD, bPUSH 8, ICMP 1 31, bPUSH 86, iST 1 1, iLD 1 1, sPUSH 219, ICMP 3 23, aLD 0 1, gR 11 0 7 1021, iLD 1 1, aLD 0 1, gR 11 0 7 1021, iLD 1 1, bPUSH 19, iADD, iALD, iAST, IINC 1 1, GOTO 8, aLD 0 1, gR 11 0 7 1021, iCONST 5, DUP2, iALD, iCONST 1, iSUB, iAST, bPUSH 86, bPUSH 19, aLD 0 1, gR 11 0 7 1021, iCONST 5, iALD, iMUL, iADD, iST 1 1, aLD 0 1, gR 11 0 7 1021, iLD 1 1, aLD 0 1, gR 11 0 7 1021, iCONST 3, iALD, iAST, aLD 0 1, gR 11 0 7 1021, iLD 1 1, iCONST 1, iADD, aLD 0 1, gR 11 0 7 1021, iCONST 4, iALD, iAST, iCONST 0, iST 2 1, iLD 2 1, iCONST 3, ICMP 3 116, aLD 0 1, gR 11 0 7 1021, iLD 1 1, iCONST 2, iADD, iCONST 3, iLD 2 1, iMUL, iADD, aLD 0 1, gR 11 0 7 1021, iLD 2 1, CALL 18 1 0 51 1089, iCONST 1, iADD, iALD, iAST, aLD 0 1, gR 11 0 7 1021, iLD 1 1, iCONST 3, iADD, iCONST 3, iLD 2 1, iMUL, iADD, aLD 0 1, gR 11 0 7 1021, iLD 2 1, CALL 18 1 0 51 1089, iCONST 2, iADD, iALD, iAST, aLD 0 1, gR 11 0 7 1021, iLD 1 1, iCONST 4, iADD, iCONST 3, iLD 2 1, iMUL, iADD, aLD 0 1, gR 11 0 7 1021, iLD 2 1, CALL 18 1 0 51 1089, iCONST 3, iADD, iALD, iAST, IINC 2 1, GOTO 60, iCONST 0, iST 2 1, iLD 2 1, bPUSH 8, ICMP 3 138, aLD 0 1, gR 11 0 7 1021, iLD 1 1, bPUSH 11, iADD, iLD 2 1, iADD, aLD 0 1, gR 11 0 7 1021, iLD 2 1, CALL 25 1 0 59 1096, iCONST 5, iADD, iALD, iAST, IINC 2 1, GOTO 118, aLD 0 1, gR 11 0 7 1021, iCONST 5, DUP2, iALD, iCONST 1, iADD, iAST, vRET]
def cd_122 : List am_I := [iLD 0 1, iLD 1 1, ICMP 3 5, iLD 0 1, GOTO 6, iLD 1 1, iRET]
def cd_123 : List am_I := [iLD 1 1, CALL 18 1 0 51 1089, iST 3 1, aLD 0 1, iLD 3 1, iCONST 1, iADD, sPUSH 999, aLD 0 1, iLD 3 1, iCONST 1, iADD, iALD, aLD 0 1, iLD 1 1, iCONST 1, CALL 46 3 0 80 1129, iADD, CALL 122 2 0 150 1249, iAST, aLD 0 1, iLD 3 1, iCONST 2, iADD, sPUSH 999, aLD 0 1, iLD 3 1, iCONST 2, iADD, iALD, iLD 2 1, iCONST 4, ICMP 1 35, iCONST 2, GOTO 41, iCONST 1, aLD 0 1, iLD 1 1, iCONST 2, CALL 46 3 0 80 1129, iADD, iADD, CALL 122 2 0 150 1249, iAST, vRET]
def cd_124 : List am_I := [iCONST 0, iST 3 1, iLD 3 1, iCONST 4, ICMP 3 34, aLD 0 1, iLD 1 1, CALL 18 1 0 51 1089, iCONST 3, iADD, iALD, iLD 3 1, CALL 34 2 0 62 1115, IFC 1 16, iCONST 1, GOTO 17, iCONST 0, iST 4 0, iLD 4 0, IFC 0 32, aLD 0 1, iLD 1 1, iLD 3 1, iLD 2 1, CALL 58 4 0 90 1146, aLD 0 1, iLD 1 1, iLD 3 1, CALL 53 3 0 87 1139, ICMP 5 32, iLD 3 1, iRET, IINC 3 1, GOTO 2, iCONST (-1), iRET]
def cd_125 : List am_I := [aLD 0 1, iLD 1 1, CALL 45 2 0 76 1126, iST 3 1, iLD 2 1, iCONST 3, ICMP 1 12, iLD 3 1, iLD 3 1, iNEG, iAND, iRET, aLD 0 1, iLD 1 1, CALL 18 1 0 51 1089, iCONST 3, iADD, iALD, iST 4 0, iLD 4 0, iCONST 0, CALL 34 2 0 62 1115, IFC 1 31, iLD 4 0, iCONST 1, CALL 34 2 0 62 1115, IFC 0 33, iLD 4 0, iCONST 2, CALL 34 2 0 62 1115, IFC 0 33, iLD 3 1, GOTO 34, iCONST 0, iRET]
def cd_126 : List am_I := [aLD 1 1, bPUSH 66, aLD 1 1, iCONST 3, iALD, iADD, iALD, iST 3 1, iLD 3 1, iCONST 1, ICMP 1 13, iCONST 2, GOTO 24, iLD 3 1, iCONST 2, ICMP 1 18, iCONST 3, GOTO 24, iLD 3 1, iCONST 3, ICMP 1 23, iLD 2 1, GOTO 24, iCONST 0, iST 4 0, aLD 0 1, iCONST 0, pZ 11 13 153 1034, aLD 0 1, iCONST 0, pI 11 15 157 1036, iCONST 0, iST 5 0, iCONST 0, iST 6 0, iLD 6 0, aLD 1 1, iCONST 0, iALD, ICMP 3 127, aLD 1 1, iLD 6 0, CALL 45 2 0 76 1126, IFC 0 125, aLD 1 1, iLD 6 0, iLD 3 1, CALL 123 3 0 160 1246, iLD 3 1, iCONST 4, ICMP 1 53, iCONST (-1), GOTO 57, aLD 1 1, iLD 6 0, iLD 4 0, CALL 124 3 0 164 1252, iST 7 0, iLD 7 0, IFC 2 125, aLD 0 1, iCONST 1, pZ 11 13 153 1034, aLD 1 1, iLD 6 0, CALL 18 1 0 51 1089, iCONST 3, iADD, DUP2, iALD, iCONST 1, iLD 7 0, iSHL, iOR, iAST, aLD 1 1, iLD 6 0, iLD 7 0, CALL 125 3 0 167 1255, iST 8 0, aLD 0 1, iLD 6 0, aLD 0 1, gI 11 14 170 1035, ICMP 1 87, iLD 8 0, GOTO 89, aLD 0 1, gI 11 15 157 1036, pI 11 15 157 1036, iLD 5 0, iLD 8 0, iOR, iST 5 0, iCONST 0, iST 9 0, iLD 9 0, aLD 1 1, iCONST 1, iALD, ICMP 3 125, aLD 1 1, iLD 9 0, CALL 25 1 0 59 1096, iCONST 5, iADD, iLD 8 0, iLD 9 0, CALL 34 2 0 62 1115, IFC 0 116, bPUSH 10, aLD 1 1, iCONST 3, iALD, iADD, GOTO 122, aLD 1 1, iLD 9 0, CALL 25 1 0 59 1096, iCONST 5, iADD, iALD, iAST, IINC 9 1, GOTO 96, IINC 6 1, GOTO 35, aLD 1 1, iCONST 3, DUP2, iALD, iCONST 1, iADD, iAST, iLD 5 0, iRET]
def cd_127 : List am_I := [aLD 0 1, gR 11 0 7 1021, iCONST 3, iALD, aLD 0 1, gR 11 0 7 1021, iCONST 2, iALD, ICMP 1 11, bPUSH (-2), iRET, aLD 0 1, CALL 121 1 2 173 1234, iCONST 0, iST 1 1, aLD 0 1, gR 11 0 7 1021, bPUSH 66, aLD 0 1, gR 11 0 7 1021, iCONST 3, iALD, iADD, iALD, iCONST 3, ICMP 1 51, aLD 0 1, gR 11 0 7 1021, iCONST 4, aLD 0 1, gR 11 0 7 1021, iCONST 4, iALD, ITL, LDC2 1103515245 176 1238, lMUL, LDC2 12345 178 1239, lADD, LDC2 2147483647 180 1240, lAND, LTI, iAST, aLD 0 1, gR 11 0 7 1021, iCONST 4, iALD, LDC 65536 182 1241, iDIV, bPUSH 8, iREM, iST 1 1, aLD 0 1, iCONST (-1), pI 11 14 170 1035, aLD 0 1, aLD 0 1, gR 11 0 7 1021, iLD 1 1, CALL 126 3 2 183 1242, iRET]
def cd_128 : List am_I := [aLD 0 1, gI 5 2 21 206, IFC 1 4, vRET, aLD 0 1, aLD 0 1, gI 5 1 17 205, bPUSH 8, iADD, iCONST 1, iSUB, bPUSH 8, iREM, pI 5 1 17 205, aLD 0 1, DUP, gI 5 2 21 206, iCONST 1, iSUB, pI 5 2 21 206, aLD 1 1, aLD 0 1, gR 5 0 11 204, aLD 0 1, gI 5 1 17 205, aALD, CALL 110 2 2 25 680, vRET]
def cd_129 : List am_I := [aLD 0 1, gR 10 0 59 390, gR 9 3 216 227, gI 5 2 220 208, IFC 1 7, bPUSH (-4), iRET, aLD 0 1, gR 10 0 59 390, gR 9 3 216 227, aLD 0 1, gR 10 0 59 390, gR 9 2 107 225, CALL 128 2 2 235 730, aLD 0 1, gR 10 0 59 390, gR 9 3 216 227, gI 5 2 220 208, iRET]
def cd_130 : List am_I := [aLD 0 1, gR 11 0 7 1021, iCONST 5, iALD, IFC 1 7, bPUSH (-4), iRET, aLD 0 1, gR 11 0 7 1021, iCONST 5, DUP2, iALD, iCONST 1, iSUB, iAST, bPUSH 86, bPUSH 19, aLD 0 1, gR 11 0 7 1021, iCONST 5, iALD, iMUL, iADD, iST 1 1, aLD 0 1, gR 11 0 7 1021, iCONST 3, aLD 0 1, gR 11 0 7 1021, iLD 1 1, iALD, iAST, aLD 0 1, gR 11 0 7 1021, iCONST 4, aLD 0 1, gR 11 0 7 1021, iLD 1 1, iCONST 1, iADD, iALD, iAST, iCONST 0, iST 2 1, iLD 2 1, iCONST 3, ICMP 3 100, aLD 0 1, gR 11 0 7 1021, iLD 2 1, CALL 18 1 0 51 1089, iCONST 1, iADD, aLD 0 1, gR 11 0 7 1021, iLD 1 1, iCONST 2, iADD, iCONST 3, iLD 2 1, iMUL, iADD, iALD, iAST, aLD 0 1, gR 11 0 7 1021, iLD 2 1, CALL 18 1 0 51 1089, iCONST 2, iADD, aLD 0 1, gR 11 0 7 1021, iLD 1 1, iCONST 3, iADD, iCONST 3, iLD 2 1, iMUL, iADD, iALD, iAST, aLD 0 1, gR 11 0 7 1021, iLD 2 1, CALL 18 1 0 51 1089, iCONST 3, iADD, aLD 0 1, gR 11 0 7 1021, iLD 1 1, iCONST 4, iADD, iCONST 3, iLD 2 1, iMUL, iADD, iALD, iAST, IINC 2 1, GOTO 44, iCONST 0, iST 2 1, iLD 2 1, bPUSH 8, ICMP 3 122, aLD 0 1, gR 11 0 7 1021, iLD 2 1, CALL 25 1 0 59 1096, iCONST 5, iADD, aLD 0 1, gR 11 0 7 1021, iLD 1 1, bPUSH 11, iADD, iLD 2 1, iADD, iALD, iAST, IINC 2 1, GOTO 102, aLD 0 1, gR 11 0 7 1021, iCONST 5, iALD, iRET]
def cd_131 : List am_I := [aLD 0 1, gR 10 0 59 390, gR 9 2 107 225, gI 3 4 205 179, iST 1 1, aLD 0 1, gR 10 0 59 390, gR 9 2 107 225, iCONST 0, pI 3 4 205 179, iLD 1 1, iRET]
def cd_132 : List am_I := [aLD 0 1, gR 11 0 7 1021, iCONST 3, iALD, iST 1 1, aLD 0 1, gR 11 0 7 1021, iCONST 3, iCONST 0, iAST, iLD 1 1, iRET]
def cd_133 : List am_I := [iLD 1 1, IFC 3 4, iCONST (-1), iRET, aLD 0 1, gR 10 0 59 390, gR 9 2 107 225, gI 3 5 239 181, iST 2 1, aLD 0 1, gR 10 0 59 390, gR 9 2 107 225, iLD 1 1, pI 3 5 239 181, iLD 2 1, iRET]
def cd_134 : List am_I := [iLD 1 1, IFC 3 4, iCONST (-1), iRET, aLD 0 1, gR 11 0 7 1021, iCONST 4, iALD, iST 2 1, aLD 0 1, gR 11 0 7 1021, iCONST 4, iLD 1 1, iAST, iLD 2 1, iRET]
def cd_135 : List am_I := [aLD 0 1, gI 0 4 24 257, IFC 1 5, bPUSH 99, iRET, iLD 2 1, iST 4 0, iLD 4 0, aLD 1 1, gI 8 1 101 151, ICMP 3 30, aLD 1 1, iLD 4 0, CALL 100 2 2 106 756, iST 5 0, aLD 0 1, iLD 5 0, CALL 114 2 2 80 704, aLD 0 1, iLD 5 0, aLD 1 1, iLD 4 0, iLD 3 1, CALL 113 3 2 109 757, CALL 115 3 2 84 709, IFC 2 28, iLD 4 0, iRET, IINC 4 1, GOTO 7, bPUSH 99, iRET]
def cd_136 : List am_I := [bPUSH 99, iST 3 1, iCONST 0, iST 4 0, iLD 4 0, aLD 0 1, gR 4 0 44 334, gR 9 0 71 218, gI 2 6 75 115, ICMP 3 43, aLD 0 1, gR 4 0 44 334, aLD 0 1, gR 4 1 12 335, iLD 4 0, aLD 0 1, gR 4 0 44 334, iLD 4 0, CALL 39 2 2 80 750, CALL 42 4 2 48 751, iLD 4 0, iLD 2 1, ICMP 1 27, aLD 0 1, gR 4 1 12 335, iCONST 1, pI 0 0 84 244, iLD 3 1, aLD 0 1, gR 4 1 12 335, aLD 0 1, gR 4 0 44 334, gR 9 1 54 221, aLD 0 1, gR 4 0 44 334, gR 9 2 58 224, gI 3 4 62 177, iLD 1 1, CALL 135 4 2 67 752, MMIN 87 758, iST 3 1, IINC 4 1, GOTO 4, iLD 3 1, iRET]
def cd_137 : List am_I := [iLD 0 1, bPUSH 99, ICMP 1 5, bPUSH (-4), GOTO 6, iLD 0 1, iRET]
def cd_138 : List am_I := [iLD 1 1, bPUSH 8, CALL 12 2 0 78 428, IFC 1 6, iCONST (-1), iRET, aLD 0 1, gR 10 3 67 393, iLD 1 1, bPUSH (-4), CALL 136 3 2 242 746, CALL 137 1 0 245 759, iRET]
def cd_139 : List am_I := [aLD 0 1, gR 11 1 13 1022, iCONST 3, iALD, aLD 0 1, gR 11 1 13 1022, iCONST 2, iALD, ICMP 3 25, aLD 0 1, aLD 0 1, gR 11 1 13 1022, iLD 1 1, CALL 126 3 2 183 1242, POP, aLD 0 1, gI 11 13 153 1034, IFC 0 0, aLD 0 1, gR 11 1 13 1022, iCONST 3, iALD, iCONST 1, iSUB, iRET, aLD 0 1, gR 11 1 13 1022, iCONST 2, iALD, iRET]
def cd_140 : List am_I := [iLD 1 1, aLD 0 1, gR 11 0 7 1021, iCONST 2, iALD, ICMP 1 8, bPUSH (-4), GOTO 9, iLD 1 1, iRET]
def cd_141 : List am_I := [iLD 1 1, iCONST 0, bPUSH 7, CALL 17 3 0 47 1083, IFC 1 7, iCONST (-1), iRET, aLD 0 1, gR 11 0 7 1021, aLD 0 1, gR 11 1 13 1022, CALL 90 2 0 137 1180, aLD 0 1, aLD 0 1, iLD 1 1, CALL 139 2 2 186 1274, CALL 140 2 2 189 1278, iRET]
def cd_142 : List am_I := [iCONST 0, iST 1 1, iLD 1 1, bPUSH 8, ICMP 3 14, aLD 0 1, iCONST 3, iLD 1 1, CALL 115 3 2 84 709, IFC 2 12, iLD 1 1, iRET, IINC 1 1, GOTO 2, bPUSH 8, iRET]
def cd_143 : List am_I := [aLD 0 1, gR 4 0 44 334, gR 9 1 54 221, aST 2 1, aLD 0 1, gR 4 0 44 334, aLD 0 1, gR 4 1 12 335, iLD 1 1, aLD 0 1, gR 4 0 44 334, iLD 1 1, CALL 39 2 2 80 750, CALL 42 4 2 48 751, aLD 0 1, gR 4 0 44 334, gR 9 2 58 224, gI 3 4 62 177, iST 3 1, iLD 3 1, aLD 2 1, gI 8 1 106 149, ICMP 3 63, aLD 2 1, iLD 3 1, CALL 100 2 2 97 770, iST 4 0, aLD 0 1, gR 4 1 12 335, iLD 4 0, CALL 114 2 2 109 775, iLD 4 0, iCONST 3, ICMP 1 47, aLD 0 1, gR 4 3 22 338, iLD 3 1, aLD 0 1, gR 4 3 22 338, iLD 3 1, iALD, aLD 0 1, gR 4 1 12 335, CALL 142 1 2 112 776, MMIN 87 758, iAST, GOTO 61, aLD 0 1, gR 4 1 12 335, iLD 4 0, aLD 2 1, iLD 3 1, iCONST 0, CALL 113 3 2 116 780, CALL 115 3 2 119 781, IFC 2 61, aLD 0 1, gR 4 3 22 338, iLD 3 1, iCONST 0, iAST, IINC 3 1, GOTO 19, vRET]
def cd_144 : List am_I := [aLD 0 1, gR 4 0 44 334, gR 9 1 54 221, aST 1 1, iCONST 0, iST 2 1, iLD 2 1, bPUSH 20, ICMP 3 23, aLD 0 1, gR 4 3 22 338, iLD 2 1, aLD 1 1, iLD 2 1, CALL 100 2 2 97 770, iCONST 3, ICMP 1 19, bPUSH 8, GOTO 20, iCONST 1, iAST, IINC 2 1, GOTO 6, iCONST 0, iST 2 1, iLD 2 1, aLD 0 1, gR 4 0 44 334, gR 9 0 71 218, gI 2 6 75 115, ICMP 3 36, aLD 0 1, iLD 2 1, CALL 143 2 2 102 771, IINC 2 1, GOTO 25, iCONST 1, iST 2 1, aLD 0 1, gR 4 0 44 334, gR 9 2 58 224, gI 3 4 62 177, iST 3 1, iLD 3 1, aLD 1 1, gI 8 1 106 149, ICMP 3 56, iLD 2 1, aLD 0 1, gR 4 3 22 338, iLD 3 1, iALD, iMUL, iST 2 1, IINC 3 1, GOTO 43, iLD 2 1, iRET]
def cd_145 : List am_I := [iLD 1 1, iCONST 2, CALL 12 2 0 78 428, IFC 1 6, iCONST (-1), iRET, aLD 0 1, gR 10 0 59 390, gR 9 1 198 222, aLD 0 1, gR 10 0 59 390, gR 9 2 107 225, gI 3 4 205 179, CALL 104 2 2 225 658, iST 2 1, iLD 2 1, iCONST 4, ICMP 5 20, bPUSH (-3), iRET, aLD 0 1, gR 10 3 67 393, CALL 144 1 2 248 766, iST 3 1, iCONST 1, iCONST 3, iLD 2 1, iMUL, iSHL, iST 4 0, iLD 4 0, iCONST 1, ICMP 5 46, iLD 3 1, iCONST 2, iREM, IFC 1 46, iLD 3 1, iCONST 2, iDIV, iST 3 1, iLD 4 0, iCONST 2, iDIV, iST 4 0, GOTO 30, iLD 1 1, IFC 1 50, iLD 3 1, GOTO 51, iLD 4 0, iRET]
def cd_146 : List am_I := [aLD 0 1, gR 11 0 7 1021, aLD 0 1, gR 11 1 13 1022, CALL 90 2 0 137 1180, iLD 1 1, iST 2 1, aLD 0 1, gR 11 1 13 1022, iCONST 3, iALD, aLD 0 1, gR 11 1 13 1022, iCONST 2, iALD, ICMP 3 53, aLD 0 1, gR 11 1 13 1022, bPUSH 66, aLD 0 1, gR 11 1 13 1022, iCONST 3, iALD, iADD, iALD, iCONST 3, ICMP 1 29, iCONST 1, GOTO 30, iCONST 0, iST 3 1, aLD 0 1, aLD 0 1, gR 11 1 13 1022, iLD 2 1, bPUSH 8, iREM, CALL 126 3 2 183 1242, POP, iLD 3 1, IFC 0 45, iLD 2 1, bPUSH 8, iDIV, GOTO 46, iLD 2 1, iST 2 1, aLD 0 1, gI 11 13 153 1034, IFC 0 52, iCONST 0, zRET, GOTO 7, iCONST 1, zRET]
def cd_147 : List am_I := [iLD 1 1, iCONST 0, iCONST 1, CALL 17 3 0 47 1083, IFC 1 7, iCONST (-1), iRET, aLD 0 1, CALL 107 1 2 147 1226, iST 2 1, iLD 2 1, iCONST 4, ICMP 5 15, bPUSH (-3), iRET, iCONST 1, iCONST 3, iLD 2 1, iMUL, iSHL, iST 3 1, iCONST 0, iST 4 0, iCONST 0, iST 5 0, iLD 5 0, iLD 3 1, ICMP 3 40, iLD 4 0, aLD 0 1, iLD 5 0, CALL 146 2 2 192 1286, IFC 0 35, iCONST 1, GOTO 36, iCONST 0, iADD, iST 4 0, IINC 5 1, GOTO 25, iLD 4 0, iST 5 0, iLD 3 1, iST 6 0, iLD 6 0, IFC 0 55, iLD 5 0, iLD 6 0, iREM, iST 7 0, iLD 6 0, iST 5 0, iLD 7 0, iST 6 0, GOTO 44, iLD 1 1, IFC 1 59, iLD 4 0, GOTO 60, iLD 3 1, iLD 5 0, iDIV, iRET]
def cd_148 : List am_I := [iCONST 0, iST 1 1, iLD 1 1, aLD 0 1, gR 9 0 12 216, gI 2 6 39 113, ICMP 3 18, aLD 0 1, gR 9 2 28 223, gR 3 2 114 172, iLD 1 1, iALD, CALL 30 1 1 117 790, IFC 0 16, iCONST 1, zRET, IINC 1 1, GOTO 2, iCONST 0, zRET]
def cd_149 : List am_I := [iCONST 1, aLD 0 1, gR 9 0 12 216, gI 2 7 53 118, iSHL, iCONST 1, iSUB, aLD 0 1, CALL 103 1 2 96 795, iCONST (-1), iXOR, iAND, iRET]
def cd_150 : List am_I := [aLD 0 1, gR 4 0 44 334, CALL 149 1 2 144 804, iST 1 1, aLD 0 1, iCONST 0, pI 4 5 28 340, iCONST 0, iST 2 1, iLD 2 1, bPUSH 8, ICMP 3 34, aLD 0 1, gI 4 5 28 340, bPUSH 6, ICMP 3 34, iLD 1 1, iLD 2 1, CALL 29 2 1 147 805, IFC 0 32, aLD 0 1, gR 4 4 25 339, aLD 0 1, gI 4 5 28 340, iLD 2 1, iAST, aLD 0 1, DUP, gI 4 5 28 340, iCONST 1, iADD, pI 4 5 28 340, IINC 2 1, GOTO 9, vRET]
def cd_151 : List am_I := [aLD 0 1, gR 4 0 44 334, aLD 0 1, gR 4 1 12 335, iLD 1 1, iLD 2 1, CALL 42 4 2 48 751, aLD 0 1, gR 4 1 12 335, aLD 0 1, gR 4 0 44 334, gR 9 1 54 221, aLD 0 1, gR 4 0 44 334, gR 9 2 58 224, gI 3 4 62 177, iLD 3 1, CALL 135 4 2 67 752, iRET]
def cd_152 : List am_I := [iCONST 0, iST 1 1, iLD 1 1, iCONST 1, aLD 0 1, gI 4 5 28 340, iSHL, ICMP 3 56, iCONST 0, iST 2 1, iCONST 0, iST 3 1, iLD 3 1, aLD 0 1, gI 4 5 28 340, ICMP 3 31, iLD 1 1, iLD 3 1, CALL 29 2 1 147 805, IFC 0 29, iLD 2 1, iCONST 1, aLD 0 1, gR 4 4 25 339, iLD 3 1, iALD, iSHL, iOR, iST 2 1, IINC 3 1, GOTO 12, iCONST 0, iST 3 1, iLD 3 1, aLD 0 1, gR 4 0 44 334, gR 9 0 71 218, gI 2 6 75 115, ICMP 3 54, aLD 0 1, gR 4 6 32 341, iLD 3 1, bPUSH 64, iMUL, iLD 1 1, iADD, aLD 0 1, iLD 3 1, iLD 2 1, bPUSH 7, CALL 151 4 2 151 810, iAST, IINC 3 1, GOTO 33, IINC 1 1, GOTO 2, vRET]
def cd_153 : List am_I := [bPUSH 99, iST 1 1, iCONST 0, iST 2 1, iLD 2 1, aLD 0 1, gR 4 0 44 334, gR 9 0 71 218, gI 2 6 75 115, ICMP 3 45, iCONST 0, iST 3 1, iCONST 0, iST 4 0, iLD 4 0, aLD 0 1, gI 4 5 28 340, ICMP 3 32, aLD 0 1, gR 4 7 35 342, iLD 4 0, iALD, iLD 2 1, ICMP 1 30, iLD 3 1, iCONST 1, iLD 4 0, iSHL, iOR, iST 3 1, IINC 4 1, GOTO 14, iLD 1 1, aLD 0 1, gR 4 6 32 341, iLD 2 1, bPUSH 64, iMUL, iLD 3 1, iADD, iALD, MMIN 87 758, iST 1 1, IINC 2 1, GOTO 4, iLD 1 1, iRET]
def cd_154 : List am_I := [aLD 0 1, gI 4 5 28 340, iCONST 1, iSUB, iST 2 1, iLD 2 1, IFC 2 29, aLD 0 1, gR 4 7 35 342, iLD 2 1, DUP2, iALD, iCONST 1, iADD, iAST, aLD 0 1, gR 4 7 35 342, iLD 2 1, iALD, iLD 1 1, ICMP 3 22, vRET, aLD 0 1, gR 4 7 35 342, iLD 2 1, iCONST 0, iAST, IINC 2 (-1), GOTO 5, vRET]
def cd_155 : List am_I := [aLD 0 1, CALL 150 1 2 122 800, aLD 0 1, CALL 152 1 2 125 806, aLD 0 1, gR 4 0 44 334, gR 9 0 71 218, gI 2 6 75 115, iST 1 1, iCONST 1, iST 2 1, iCONST 0, iST 3 1, iLD 3 1, aLD 0 1, gI 4 5 28 340, ICMP 3 23, iLD 2 1, iLD 1 1, iMUL, iST 2 1, IINC 3 1, GOTO 13, aLD 0 1, gR 4 7 35 342, iCONST 0, CALL 79 2 0 128 814, aLD 0 1, iCONST (-1), pI 4 9 41 344, iCONST 0, iST 3 1, iLD 3 1, iLD 2 1, ICMP 3 55, aLD 0 1, CALL 153 1 2 134 815, iST 4 0, iLD 4 0, aLD 0 1, gI 4 9 41 344, ICMP 5 50, aLD 0 1, iLD 4 0, pI 4 9 41 344, aLD 0 1, gR 4 8 38 343, aLD 0 1, gR 4 7 35 342, CALL 71 2 1 137 819, aLD 0 1, iLD 1 1, CALL 154 2 2 141 820, IINC 3 1, GOTO 32, vRET]
def cd_156 : List am_I := [iCONST 0, iST 2 1, iLD 2 1, aLD 0 1, gI 4 5 28 340, ICMP 3 19, aLD 0 1, gR 4 4 25 339, iLD 2 1, iALD, iLD 1 1, ICMP 1 17, aLD 0 1, gR 4 8 38 343, iLD 2 1, iALD, iRET, IINC 2 1, GOTO 2, bPUSH (-4), iRET]
def cd_157 : List am_I := [iLD 1 1, iCONST (-1), ICMP 0 11, aLD 0 1, gR 10 0 59 390, gR 9 0 82 217, iLD 1 1, CALL 27 2 2 100 464, IFC 1 11, iCONST (-1), iRET, aLD 0 1, gR 10 0 59 390, gR 9 0 82 217, gI 2 6 85 114, IFC 0 20, aLD 0 1, gR 10 0 59 390, CALL 148 1 2 251 786, IFC 0 22, iCONST (-1), iRET, aLD 0 1, gR 10 0 59 390, CALL 149 1 2 255 791, CALL 55 1 0 211 657, bPUSH 6, ICMP 5 30, bPUSH (-3), iRET, aLD 0 1, gR 10 3 67 393, CALL 155 1 2 258 796, iLD 1 1, iCONST (-1), ICMP 1 41, aLD 0 1, gR 10 3 67 393, gI 4 9 261 345, CALL 137 1 0 245 759, GOTO 45, aLD 0 1, gR 10 3 67 393, iLD 1 1, CALL 156 2 2 264 824, iRET]
def cd_158 : List am_I := [iCONST 0, iST 1 1, iCONST 0, iST 2 1, iLD 2 1, bPUSH 8, ICMP 3 17, iLD 1 1, iLD 0 1, iLD 2 1, iSHR, iCONST 1, iAND, iADD, iST 1 1, IINC 2 1, GOTO 4, iLD 1 1, iRET]
def cd_159 : List am_I := [iCONST 1, iST 3 1, iCONST 0, iST 4 0, iLD 4 0, iLD 2 1, ICMP 3 13, iLD 3 1, iLD 1 1, iMUL, iST 3 1, IINC 4 1, GOTO 4, iLD 3 1, iRET]
def cd_160 : List am_I := [aLD 0 1, gR 11 0 7 1021, aLD 0 1, gR 11 1 13 1022, CALL 90 2 0 137 1180, iLD 1 1, iST 3 1, aLD 0 1, gR 11 0 7 1021, iCONST 1, iALD, iCONST 1, iSUB, iST 4 0, iLD 4 0, IFC 2 42, iLD 2 1, iLD 4 0, CALL 34 2 0 62 1115, IFC 0 40, aLD 0 1, gR 11 1 13 1022, iLD 4 0, CALL 25 1 0 59 1096, iCONST 5, iADD, iLD 3 1, aLD 0 1, gR 11 0 7 1021, iCONST 0, iALD, iREM, iAST, iLD 3 1, aLD 0 1, gR 11 0 7 1021, iCONST 0, iALD, iDIV, iST 3 1, IINC 4 (-1), GOTO 14, vRET]
def cd_161 : List am_I := [aLD 0 1, gR 11 0 7 1021, iCONST 0, iALD, IFC 1 7, iCONST 1, GOTO 8, iCONST 0, iST 2 1, iCONST 0, iST 3 1, iLD 3 1, aLD 0 1, gR 11 0 7 1021, iCONST 0, iALD, ICMP 3 29, iLD 2 1, IFC 1 23, aLD 0 1, iLD 3 1, CALL 35 2 2 73 1111, IFC 0 25, iCONST 1, GOTO 26, iCONST 0, iST 2 1, IINC 3 1, GOTO 11, iLD 2 1, IFC 1 38, iLD 1 1, iCONST (-1), ICMP 0 40, aLD 0 1, iLD 1 1, CALL 32 2 2 66 1103, IFC 1 40, iCONST (-1), iRET, iCONST 0, iST 3 1, iCONST 0, iST 4 0, iLD 4 0, aLD 0 1, gR 11 0 7 1021, iCONST 1, iALD, ICMP 3 69, iLD 3 1, aLD 0 1, gR 11 0 7 1021, iLD 4 0, CALL 25 1 0 59 1096, iCONST 5, iADD, iALD, bPUSH 10, ICMP 3 64, iCONST 1, iLD 4 0, iSHL, GOTO 65, iCONST 0, iOR, iST 3 1, IINC 4 1, GOTO 44, iLD 3 1, CALL 158 1 0 195 1294, bPUSH 6, ICMP 5 75, bPUSH (-3), iRET, iCONST 0, iST 4 0, iCONST (-1), iST 5 0, iCONST 0, iST 6 0, iLD 6 0, aLD 0 1, aLD 0 1, gR 11 0 7 1021, iCONST 0, iALD, iLD 3 1, CALL 158 1 0 195 1294, CALL 159 3 2 198 1297, ICMP 3 115, aLD 0 1, iLD 6 0, iLD 3 1, CALL 160 3 2 201 1301, aLD 0 1, bPUSH 7, CALL 139 2 2 186 1274, iST 7 0, iLD 7 0, iLD 5 0, ICMP 5 104, iLD 6 0, GOTO 105, iLD 4 0, iST 4 0, iLD 7 0, iLD 5 0, ICMP 5 111, iLD 7 0, GOTO 112, iLD 5 0, iST 5 0, IINC 6 1, GOTO 81, iLD 1 1, iCONST (-1), ICMP 1 122, aLD 0 1, iLD 5 0, CALL 140 2 2 189 1278, iRET, aLD 0 1, iLD 4 0, iLD 3 1, CALL 160 3 2 201 1301, iLD 3 1, iLD 1 1, CALL 34 2 0 62 1115, IFC 0 138, aLD 0 1, gR 11 1 13 1022, iLD 1 1, CALL 25 1 0 59 1096, iCONST 5, iADD, iALD, GOTO 139, bPUSH (-4), iRET]
def cd_162 : List am_I := [bPUSH (-4), iST 1 1, aLD 0 1, bPUSH 7, bPUSH (-4), CALL 136 3 2 93 836, iST 2 1, iCONST 0, iST 3 1, iLD 3 1, aLD 0 1, gR 4 0 44 334, gR 9 0 71 218, gI 2 6 75 115, ICMP 3 37, aLD 0 1, gR 4 0 44 334, gR 9 0 71 218, gR 2 0 95 94, iLD 3 1, iALD, IFC 0 23, GOTO 35, aLD 0 1, bPUSH 7, iLD 3 1, CALL 136 3 2 93 836, iST 4 0, iLD 4 0, iLD 2 1, ICMP 5 35, iLD 4 0, iST 2 1, iLD 3 1, iST 1 1, IINC 3 1, GOTO 9, iLD 1 1, iRET]
def cd_163 : List am_I := [aLD 0 1, gR 10 3 67 393, CALL 162 1 2 267 832, iRET]
def cd_164 : List am_I := [aLD 0 1, gR 11 0 7 1021, aLD 0 1, gR 11 1 13 1022, CALL 90 2 0 137 1180, aLD 0 1, bPUSH 7, CALL 139 2 2 186 1274, iST 1 1, bPUSH (-4), iST 2 1, iCONST 0, iST 3 1, iLD 3 1, aLD 0 1, gR 11 0 7 1021, iCONST 0, iALD, ICMP 3 60, aLD 0 1, gR 11 0 7 1021, iLD 3 1, CALL 18 1 0 51 1089, iCONST 0, iADD, iALD, IFC 1 58, aLD 0 1, gR 11 0 7 1021, aLD 0 1, gR 11 1 13 1022, CALL 90 2 0 137 1180, aLD 0 1, gR 11 1 13 1022, iLD 3 1, CALL 18 1 0 51 1089, iCONST 0, iADD, iCONST 1, iAST, aLD 0 1, bPUSH 7, CALL 139 2 2 186 1274, iST 4 0, iLD 4 0, iLD 1 1, ICMP 5 49, iLD 3 1, GOTO 50, iLD 2 1, iST 2 1, iLD 4 0, iLD 1 1, ICMP 5 56, iLD 4 0, GOTO 57, iLD 1 1, iST 1 1, IINC 3 1, GOTO 13, iLD 2 1, iRET]
def cd_165 : List am_I := [aLD 0 1, gR 4 0 44 334, gR 9 0 71 218, gR 2 4 161 108, iLD 1 1, CALL 40 2 1 164 853, aLD 0 1, gR 4 0 44 334, gR 9 0 71 218, gR 2 4 161 108, iLD 2 1, CALL 40 2 1 164 853, iSUB, iST 3 1, iLD 3 1, IFC 0 22, iLD 3 1, IFC 3 20, iCONST 1, GOTO 21, iCONST 0, zRET, iLD 1 1, CALL 55 1 0 168 854, iLD 2 1, CALL 55 1 0 168 854, iSUB, iST 4 0, iLD 4 0, IFC 0 36, iLD 4 0, IFC 3 34, iCONST 1, GOTO 42, iCONST 0, GOTO 42, iLD 1 1, iLD 2 1, ICMP 3 41, iCONST 1, GOTO 42, iCONST 0, zRET]
def cd_166 : List am_I := [aLD 0 1, gR 4 0 44 334, iLD 1 1, CALL 39 2 2 80 750, iST 2 1, iLD 2 1, iST 3 1, iCONST 0, iST 4 0, iLD 4 0, sPUSH 256, ICMP 3 39, iLD 4 0, iLD 2 1, iCONST (-1), iXOR, iAND, IFC 1 37, aLD 0 1, iLD 4 0, iLD 3 1, CALL 165 3 2 158 849, IFC 1 24, GOTO 37, aLD 0 1, iLD 1 1, iLD 2 1, iLD 4 0, iCONST (-1), iXOR, iAND, bPUSH 7, CALL 151 4 2 151 810, bPUSH 99, ICMP 1 37, iLD 4 0, iST 3 1, IINC 4 1, GOTO 9, iLD 3 1, iRET]
def cd_167 : List am_I := [iCONST 0, iST 1 1, iCONST 0, iST 2 1, iLD 2 1, aLD 0 1, gR 4 0 44 334, gR 9 0 71 218, gI 2 6 75 115, ICMP 3 18, iLD 1 1, aLD 0 1, iLD 2 1, CALL 166 2 2 155 845, iOR, iST 1 1, IINC 2 1, GOTO 4, iLD 1 1, iRET]
def cd_168 : List am_I := [iLD 1 1, iCONST 2, CALL 12 2 0 78 428, IFC 1 6, iCONST (-1), iRET, aLD 0 1, gR 10 3 67 393, CALL 167 1 2 270 841, iST 2 1, iLD 1 1, IFC 1 14, iLD 2 1, GOTO 20, aLD 0 1, gR 10 0 59 390, gR 9 0 82 217, gR 2 4 164 107, iLD 2 1, CALL 40 2 0 273 855, iRET]
def cd_169 : List am_I := [iCONST 0, iST 2 1, iCONST 0, iST 3 1, iLD 3 1, aLD 0 1, gR 11 0 7 1021, iCONST 1, iALD, ICMP 3 28, iLD 2 1, iLD 1 1, iLD 3 1, CALL 34 2 0 62 1115, IFC 0 23, aLD 0 1, gR 11 0 7 1021, iLD 3 1, CALL 25 1 0 59 1096, iCONST 3, iADD, iALD, GOTO 24, iCONST 0, iADD, iST 2 1, IINC 3 1, GOTO 4, iLD 2 1, iRET]
def cd_170 : List am_I := [aLD 0 1, gR 11 0 7 1021, aLD 0 1, gR 11 1 13 1022, CALL 90 2 0 137 1180, iCONST 0, iST 2 1, iLD 2 1, aLD 0 1, gR 11 0 7 1021, iCONST 1, iALD, ICMP 3 35, aLD 0 1, gR 11 1 13 1022, iLD 2 1, CALL 25 1 0 59 1096, iCONST 5, iADD, iLD 1 1, iLD 2 1, CALL 34 2 0 62 1115, IFC 0 25, iCONST 3, GOTO 32, aLD 0 1, gR 11 1 13 1022, iLD 2 1, CALL 25 1 0 59 1096, iCONST 5, iADD, iALD, iAST, IINC 2 1, GOTO 7, aLD 0 1, bPUSH 7, CALL 139 2 2 186 1274, aLD 0 1, gR 11 0 7 1021, iCONST 2, iALD, ICMP 1 45, iCONST 1, GOTO 46, iCONST 0, zRET]
def cd_171 : List am_I := [iLD 1 1, iCONST 0, iCONST 1, CALL 17 3 0 47 1083, IFC 1 7, iCONST (-1), iRET, iCONST 0, iST 2 1, iCONST 0, iST 3 1, iLD 3 1, aLD 0 1, gR 11 0 7 1021, iCONST 0, iALD, ICMP 3 26, iLD 2 1, aLD 0 1, gR 11 0 7 1021, iLD 3 1, CALL 45 2 0 76 1126, iOR, iST 2 1, IINC 3 1, GOTO 11, iLD 2 1, iST 3 1, iCONST 0, iST 4 0, iLD 4 0, iLD 2 1, ICMP 4 82, aLD 0 1, iLD 3 1, CALL 169 2 2 205 1313, aLD 0 1, iLD 4 0, CALL 169 2 2 205 1313, iSUB, iST 5 0, iLD 5 0, IFC 4 60, iLD 5 0, IFC 1 50, iLD 4 0, CALL 158 1 0 195 1294, iLD 3 1, CALL 158 1 0 195 1294, ICMP 2 60, iLD 5 0, IFC 1 62, iLD 4 0, CALL 158 1 0 195 1294, iLD 3 1, CALL 158 1 0 195 1294, ICMP 1 62, iLD 4 0, iLD 3 1, ICMP 3 62, iCONST 1, GOTO 63, iCONST 0, iST 6 0, iLD 4 0, iLD 2 1, iCONST (-1), iXOR, iAND, IFC 1 78, iLD 6 0, IFC 0 78, aLD 0 1, iLD 4 0, CALL 170 2 2 208 1317, IFC 0 78, iLD 4 0, GOTO 79, iLD 3 1, iST 3 1, IINC 4 1, GOTO 30, iLD 1 1, IFC 1 86, iLD 3 1, GOTO 89, aLD 0 1, iLD 3 1, CALL 169 2 2 205 1313, iRET]
def cd_172 : List am_I := [aLD 0 1, gR 9 0 12 216, iLD 1 1, CALL 27 2 2 100 864, IFC 0 21, aLD 0 1, gR 9 0 12 216, gR 2 5 104 111, iLD 1 1, iALD, iCONST 1, ICMP 1 21, aLD 0 1, gR 9 2 28 223, gR 3 3 74 174, iLD 1 1, iALD, bPUSH 10, ICMP 2 21, iCONST 1, GOTO 22, iCONST 0, zRET]
def cd_173 : List am_I := [aLD 0 1, iLD 1 1, CALL 100 2 2 19 662, iST 2 1, iLD 2 1, iCONST 1, ICMP 0 12, iLD 2 1, iCONST 2, ICMP 0 12, iCONST 0, iRET, iLD 2 1, iCONST 1, ICMP 1 17, iCONST (-1), GOTO 18, iCONST 1, iST 3 1, iCONST 0, iST 4 0, iLD 4 0, bPUSH 20, ICMP 3 37, aLD 0 1, iLD 1 1, iLD 3 1, iLD 4 0, iCONST 1, iADD, iMUL, iADD, CALL 100 2 2 19 662, iLD 2 1, ICMP 1 37, IINC 4 1, GOTO 21, iLD 4 0, iRET]
def cd_174 : List am_I := [aLD 0 1, iLD 1 1, CALL 172 2 2 107 869, IFC 0 15, aLD 0 1, gR 9 1 21 220, aLD 0 1, gR 9 2 28 223, gR 3 3 74 174, iLD 1 1, iALD, bPUSH 10, iSUB, CALL 173 2 2 110 870, GOTO 16, iCONST 0, iRET]
def cd_175 : List am_I := [aLD 0 1, gR 10 0 59 390, gR 9 0 82 217, iLD 1 1, CALL 27 2 2 100 464, IFC 1 8, iCONST (-1), iRET, aLD 0 1, gR 10 0 59 390, iLD 1 1, CALL 172 2 2 277 860, IFC 1 15, bPUSH (-2), iRET, aLD 0 1, gR 10 0 59 390, iLD 1 1, CALL 174 2 2 280 865, iRET]
def cd_176 : List am_I := [aLD 0 1, gR 11 0 7 1021, iLD 1 1, CALL 25 1 0 59 1096, iCONST 4, iADD, iALD, iCONST 1, ICMP 1 20, aLD 0 1, gR 11 0 7 1021, iLD 1 1, CALL 25 1 0 59 1096, iCONST 5, iADD, iALD, bPUSH 10, ICMP 2 20, iCONST 1, GOTO 21, iCONST 0, zRET]
def cd_177 : List am_I := [aLD 0 1, gR 11 0 7 1021, iLD 1 1, CALL 25 1 0 59 1096, iCONST 5, iADD, iALD, bPUSH 10, iSUB, iST 2 1, iLD 2 1, iCONST 0, aLD 0 1, gR 11 0 7 1021, iCONST 2, iALD, iCONST 1, iSUB, CALL 17 3 0 47 1083, IFC 0 27, aLD 0 1, gR 11 0 7 1021, bPUSH 66, iLD 2 1, iADD, iALD, GOTO 28, iCONST 0, iST 3 1, iLD 3 1, iCONST 1, ICMP 1 34, iCONST (-1), GOTO 40, iLD 3 1, iCONST 2, ICMP 1 39, iCONST 1, GOTO 40, iCONST 0, iST 4 0, iCONST 0, iST 5 0, iLD 4 0, IFC 0 73, iLD 2 1, iLD 4 0, iADD, iCONST 0, aLD 0 1, gR 11 0 7 1021, iCONST 2, iALD, iCONST 1, iSUB, CALL 17 3 0 47 1083, IFC 0 73, aLD 0 1, gR 11 0 7 1021, bPUSH 66, iLD 2 1, iADD, iLD 4 0, iADD, iALD, iLD 3 1, ICMP 1 73, iLD 2 1, iLD 4 0, iADD, iST 2 1, IINC 5 1, GOTO 43, iLD 5 0, iRET]
def cd_178 : List am_I := [aLD 0 1, iLD 1 1, CALL 32 2 2 66 1103, IFC 1 6, iCONST (-1), iRET, aLD 0 1, iLD 1 1, CALL 176 2 2 211 1325, IFC 0 14, aLD 0 1, iLD 1 1, CALL 177 2 2 214 1329, GOTO 15, bPUSH (-2), iRET]
def cd_179 : List am_I := [iCONST 0, iST 1 1, iCONST 0, iST 2 1, iLD 2 1, aLD 0 1, gR 9 0 12 216, gI 2 7 53 118, ICMP 3 21, aLD 0 1, iLD 2 1, CALL 172 2 2 107 869, IFC 0 19, iLD 1 1, iCONST 1, iLD 2 1, iSHL, iOR, iST 1 1, IINC 2 1, GOTO 4, iLD 1 1, iRET]
def cd_180 : List am_I := [aLD 0 1, gR 1 0 25 373, CALL 179 1 2 45 890, iST 1 1, aLD 0 1, iCONST 0, pI 1 3 18 376, iCONST 0, iST 2 1, iLD 2 1, bPUSH 8, ICMP 3 43, aLD 0 1, gI 1 3 18 376, bPUSH 6, ICMP 3 43, iLD 1 1, iLD 2 1, CALL 29 2 1 32 891, IFC 0 41, aLD 0 1, gR 1 1 9 374, aLD 0 1, gI 1 3 18 376, iLD 2 1, iAST, aLD 0 1, gR 1 2 15 375, aLD 0 1, gI 1 3 18 376, aLD 0 1, gR 1 0 25 373, iLD 2 1, CALL 174 2 2 51 892, iAST, aLD 0 1, DUP, gI 1 3 18 376, iCONST 1, iADD, pI 1 3 18 376, IINC 2 1, GOTO 9, vRET]
def cd_181 : List am_I := [aLD 0 1, gR 1 2 15 375, iLD 2 1, iALD, IFC 1 7, iCONST 1, zRET, iCONST 0, iST 3 1, iCONST 0, iST 4 0, iLD 4 0, aLD 0 1, gI 1 3 18 376, ICMP 3 35, iLD 4 0, iLD 2 1, ICMP 0 22, iLD 1 1, iLD 4 0, CALL 29 2 1 32 891, IFC 0 33, iLD 3 1, iCONST 2, aLD 0 1, gR 1 2 15 375, iLD 4 0, iALD, iMUL, iCONST 1, iADD, iADD, iST 3 1, IINC 4 1, GOTO 11, iLD 3 1, iCONST 3, aLD 0 1, gR 1 2 15 375, iLD 2 1, iALD, iMUL, iCONST 2, iADD, ICMP 4 47, iCONST 1, GOTO 48, iCONST 0, zRET]
def cd_182 : List am_I := [aLD 0 1, gR 1 4 22 377, iLD 1 1, iCONST 1, iLD 2 1, iSHL, iOR, iALD, iST 3 1, aLD 0 1, iLD 1 1, iLD 2 1, CALL 181 3 2 55 897, IFC 0 26, iLD 3 1, aLD 0 1, gR 1 0 25 373, gR 9 0 58 219, gR 2 4 62 106, aLD 0 1, gR 1 1 9 374, iLD 2 1, iALD, iALD, iADD, GOTO 27, iLD 3 1, iRET]
def cd_183 : List am_I := [aLD 0 1, CALL 180 1 2 29 886, iCONST 1, aLD 0 1, gI 1 3 18 376, iSHL, iCONST 1, iSUB, iST 1 1, aLD 0 1, gR 1 4 22 377, iLD 1 1, iCONST 0, iAST, iLD 1 1, iCONST 1, iSUB, iST 2 1, iLD 2 1, IFC 2 48, iCONST 0, iST 3 1, iCONST 0, iST 4 0, iLD 4 0, aLD 0 1, gI 1 3 18 376, ICMP 3 41, iLD 2 1, iLD 4 0, CALL 29 2 1 32 891, IFC 1 39, iLD 3 1, aLD 0 1, iLD 2 1, iLD 4 0, CALL 182 3 2 36 893, MMAX 40 901, iST 3 1, IINC 4 1, GOTO 24, aLD 0 1, gR 1 4 22 377, iLD 2 1, iLD 3 1, iAST, IINC 2 (-1), GOTO 18, vRET]
def cd_184 : List am_I := [iCONST 0, iST 2 1, iLD 2 1, aLD 0 1, gI 1 3 18 376, ICMP 3 23, iLD 1 1, iLD 2 1, CALL 29 2 1 32 891, IFC 1 21, aLD 0 1, iLD 1 1, iLD 2 1, CALL 182 3 2 36 893, aLD 0 1, gR 1 4 22 377, iLD 1 1, iALD, ICMP 1 21, iLD 2 1, iRET, IINC 2 1, GOTO 2, iCONST 0, iRET]
def cd_185 : List am_I := [iLD 1 1, IFC 2 6, iLD 1 1, aLD 0 1, gI 1 3 18 376, ICMP 2 8, bPUSH (-4), iRET, iCONST 0, iST 2 1, iCONST 0, iST 3 1, iLD 3 1, iLD 1 1, ICMP 3 25, iLD 2 1, iCONST 1, aLD 0 1, iLD 2 1, CALL 184 2 2 67 906, iSHL, iOR, iST 2 1, IINC 3 1, GOTO 12, aLD 0 1, gR 1 1 9 374, aLD 0 1, iLD 2 1, CALL 184 2 2 67 906, iALD, iRET]
def cd_186 : List am_I := [iLD 1 1, iCONST (-1), ICMP 2 6, iLD 1 1, bPUSH 8, ICMP 2 8, iCONST (-1), iRET, aLD 0 1, gR 10 0 59 390, CALL 179 1 2 283 878, CALL 55 1 0 211 657, bPUSH 6, ICMP 5 16, bPUSH (-3), iRET, aLD 0 1, gR 10 4 74 394, CALL 183 1 2 286 882, iLD 1 1, iCONST (-1), ICMP 1 28, aLD 0 1, gR 10 4 74 394, gR 1 4 289 378, iCONST 0, iALD, GOTO 32, aLD 0 1, gR 10 4 74 394, iLD 1 1, CALL 185 2 2 292 902, iRET]
def cd_187 : List am_I := [iLD 1 1, iST 3 1, iCONST 0, iST 4 0, iLD 2 1, iCONST 1, iSUB, iST 5 0, iLD 5 0, IFC 2 32, aLD 0 1, gR 11 17 41 1038, iLD 5 0, iLD 3 1, iLD 2 1, iREM, iAST, iLD 4 0, iCONST 1, aLD 0 1, gR 11 17 41 1038, iLD 5 0, iALD, iSHL, iOR, iST 4 0, iLD 3 1, iLD 2 1, iDIV, iST 3 1, IINC 5 (-1), GOTO 8, iLD 4 0, CALL 158 1 0 195 1294, iLD 2 1, ICMP 1 38, iCONST 1, GOTO 39, iCONST 0, zRET]
def cd_188 : List am_I := [iCONST 0, iST 2 1, iCONST 0, iST 3 1, iCONST 0, iST 4 0, iLD 4 0, iLD 1 1, ICMP 3 52, aLD 0 1, gR 11 16 38 1037, aLD 0 1, gR 11 17 41 1038, iLD 4 0, iALD, iALD, iST 5 0, aLD 0 1, iLD 5 0, CALL 177 2 2 214 1329, iST 6 0, iLD 2 1, iCONST 2, iLD 6 0, iMUL, iCONST 1, iADD, iADD, iST 2 1, iLD 3 1, iLD 6 0, IFC 0 39, iLD 2 1, iCONST 3, iLD 6 0, iMUL, iCONST 2, iADD, ICMP 4 47, aLD 0 1, gR 11 0 7 1021, iLD 5 0, CALL 25 1 0 59 1096, iCONST 3, iADD, iALD, GOTO 48, iCONST 0, iADD, iST 3 1, IINC 4 1, GOTO 6, iLD 3 1, iRET]
def cd_189 : List am_I := [iLD 1 1, iCONST (-1), bPUSH 7, CALL 17 3 0 47 1083, IFC 1 7, iCONST (-1), iRET, iCONST 0, iST 2 1, iCONST 0, iST 3 1, iLD 3 1, aLD 0 1, gR 11 0 7 1021, iCONST 1, iALD, ICMP 3 34, aLD 0 1, iLD 3 1, CALL 176 2 2 211 1325, IFC 0 32, iLD 2 1, bPUSH 6, ICMP 1 26, bPUSH (-3), iRET, aLD 0 1, gR 11 16 38 1037, iLD 2 1, iLD 3 1, iAST, IINC 2 1, IINC 3 1, GOTO 11, iCONST (-1), iST 3 1, iCONST 0, iST 4 0, iLD 4 0, aLD 0 1, iLD 2 1, iLD 2 1, CALL 159 3 2 198 1297, ICMP 3 85, aLD 0 1, iLD 4 0, iLD 2 1, CALL 187 3 2 217 1337, IFC 0 53, aLD 0 1, iLD 2 1, CALL 188 2 2 220 1341, GOTO 54, iCONST (-1), iST 5 0, iCONST 0, iST 6 0, iLD 6 0, iLD 2 1, ICMP 3 76, iLD 5 0, iLD 3 1, ICMP 5 76, aLD 0 1, gR 11 18 44 1039, iLD 6 0, aLD 0 1, gR 11 16 38 1037, aLD 0 1, gR 11 17 41 1038, iLD 6 0, iALD, iALD, iAST, IINC 6 1, GOTO 57, iLD 5 0, iLD 3 1, ICMP 5 81, iLD 5 0, GOTO 82, iLD 3 1, iST 3 1, IINC 4 1, GOTO 38, iLD 1 1, iCONST (-1), ICMP 1 90, iLD 3 1, GOTO 99, iLD 1 1, iLD 2 1, ICMP 3 98, aLD 0 1, gR 11 18 44 1039, iLD 1 1, iALD, GOTO 99, bPUSH (-4), iRET]
def cd_190 : List am_I := [iCONST 0, iST 4 0, iCONST 0, iST 5 0, iCONST 0, iST 6 0, iCONST 0, iST 7 0, aLD 0 1, gR 10 0 59 390, gR 9 2 107 225, gI 3 4 205 179, iST 8 0, iLD 8 0, aLD 0 1, gR 10 0 59 390, gR 9 1 198 222, gI 8 1 201 152, ICMP 3 49, iLD 7 0, iLD 3 1, ICMP 1 30, iLD 6 0, IFC 1 26, iCONST 1, GOTO 27, iCONST 0, iST 6 0, iCONST 0, iST 7 0, iLD 4 0, iLD 6 0, IFC 0 35, iLD 2 1, GOTO 36, iLD 1 1, iADD, iST 4 0, iLD 5 0, iLD 6 0, IFC 0 43, iLD 1 1, GOTO 44, iLD 2 1, iADD, iST 5 0, IINC 7 1, IINC 8 1, GOTO 13, iLD 4 0, iLD 5 0, MMAX 357 918, iRET]
def cd_191 : List am_I := [aLD 0 1, gR 10 0 59 390, gR 9 0 82 217, iLD 1 1, CALL 28 2 2 104 469, IFC 0 12, aLD 0 1, gR 10 0 59 390, gR 9 0 82 217, iLD 2 1, CALL 28 2 2 104 469, IFC 1 14, iCONST (-1), iRET, iLD 1 1, iLD 2 1, ICMP 0 21, iLD 3 1, iCONST 2, CALL 12 2 0 78 428, IFC 1 23, iCONST (-1), iRET, aLD 0 1, gR 10 0 59 390, gR 9 0 82 217, gR 2 1 156 98, aLD 0 1, gR 10 0 59 390, iLD 1 1, CALL 39 2 2 123 488, CALL 40 2 0 273 855, iST 4 0, aLD 0 1, gR 10 0 59 390, gR 9 0 82 217, gR 2 1 156 98, aLD 0 1, gR 10 0 59 390, iLD 2 1, CALL 39 2 2 123 488, CALL 40 2 0 273 855, iST 5 0, iCONST 1, iST 6 0, aLD 0 1, iLD 4 0, iLD 5 0, iCONST 1, CALL 190 4 2 295 914, iST 7 0, iCONST 2, iST 8 0, iLD 8 0, bPUSH 20, ICMP 4 71, aLD 0 1, iLD 4 0, iLD 5 0, iLD 8 0, CALL 190 4 2 295 914, iST 9 0, iLD 9 0, iLD 7 0, ICMP 3 69, iLD 9 0, iST 7 0, iLD 8 0, iST 6 0, IINC 8 1, GOTO 53, iLD 3 1, IFC 1 75, iLD 6 0, GOTO 76, iLD 7 0, iRET]
def cd_192 : List am_I := [iCONST 0, iST 4 0, iCONST 0, iST 5 0, iCONST 0, iST 6 0, iLD 6 0, aLD 0 1, gR 11 0 7 1021, iCONST 2, iALD, aLD 0 1, gR 11 0 7 1021, iCONST 3, iALD, iSUB, ICMP 3 54, iLD 6 0, iLD 3 1, iDIV, iCONST 2, iREM, iCONST 1, ICMP 1 26, iCONST 1, GOTO 27, iCONST 0, iST 7 0, iLD 4 0, aLD 0 1, gR 11 0 7 1021, iLD 7 0, IFC 0 35, iLD 2 1, GOTO 36, iLD 1 1, iCONST 0, CALL 46 3 0 80 1129, iADD, iST 4 0, iLD 5 0, aLD 0 1, gR 11 0 7 1021, iLD 7 0, IFC 0 47, iLD 1 1, GOTO 48, iLD 2 1, iCONST 0, CALL 46 3 0 80 1129, iADD, iST 5 0, IINC 6 1, GOTO 6, iLD 4 0, iLD 5 0, ICMP 5 59, iLD 4 0, GOTO 60, iLD 5 0, iRET]
def cd_193 : List am_I := [aLD 0 1, iLD 1 1, CALL 33 2 2 70 1107, IFC 0 16, aLD 0 1, iLD 2 1, CALL 33 2 2 70 1107, IFC 0 16, iLD 1 1, iLD 2 1, ICMP 0 16, iLD 3 1, iCONST 0, iCONST 1, CALL 17 3 0 47 1083, IFC 1 18, iCONST (-1), iRET, iCONST 1, iST 4 0, iCONST 2, iST 5 0, iLD 5 0, bPUSH 21, ICMP 3 42, aLD 0 1, iLD 1 1, iLD 2 1, iLD 5 0, CALL 192 4 2 223 1349, aLD 0 1, iLD 1 1, iLD 2 1, iLD 4 0, CALL 192 4 2 223 1349, ICMP 3 38, iLD 5 0, GOTO 39, iLD 4 0, iST 4 0, IINC 5 1, GOTO 22, iLD 3 1, IFC 1 46, iLD 4 0, GOTO 51, aLD 0 1, iLD 1 1, iLD 2 1, iLD 4 0, CALL 192 4 2 223 1349, iRET]
def cd_194 : List am_I := [aLD 0 1, gR 4 0 44 334, gR 9 1 54 221, aST 3 1, aLD 0 1, gR 4 0 44 334, aLD 0 1, gR 4 1 12 335, iLD 1 1, aLD 0 1, gR 4 0 44 334, iLD 1 1, CALL 39 2 2 80 750, CALL 42 4 2 48 751, aLD 0 1, gR 4 0 44 334, gR 9 2 58 224, gI 3 4 62 177, iST 4 0, iLD 4 0, aLD 3 1, gI 8 1 106 149, ICMP 3 45, aLD 0 1, gR 4 2 18 336, iLD 4 0, DUP2, iALD, aLD 0 1, gR 4 1 12 335, aLD 0 1, gR 4 0 44 334, gR 9 0 71 218, aLD 3 1, iLD 4 0, CALL 100 2 2 97 770, aLD 3 1, iLD 4 0, iLD 2 1, CALL 113 3 2 116 780, CALL 118 4 2 177 931, iOR, iAST, IINC 4 1, GOTO 19, vRET]
def cd_195 : List am_I := [aLD 0 1, gR 4 2 18 336, iCONST 0, CALL 79 2 0 128 814, aLD 0 1, iLD 1 1, iLD 2 1, CALL 194 3 2 173 927, iCONST 0, iST 4 0, iLD 4 0, bPUSH 20, ICMP 3 30, aLD 0 1, gR 4 2 18 336, iLD 4 0, iALD, IFC 0 28, aLD 0 1, gR 4 2 18 336, iLD 4 0, iALD, iLD 3 1, ICMP 1 26, iLD 4 0, GOTO 27, bPUSH 99, iRET, IINC 4 1, GOTO 10, bPUSH 99, iRET]
def cd_196 : List am_I := [aLD 0 1, gR 10 0 59 390, gR 9 0 82 217, iLD 1 1, CALL 28 2 2 104 469, IFC 0 10, iLD 3 1, iCONST 2, CALL 12 2 0 78 428, IFC 1 12, iCONST (-1), iRET, iLD 2 1, iCONST 1, ICMP 2 23, iLD 2 1, iCONST 1, aLD 0 1, gR 10 0 59 390, gR 9 0 82 217, gI 2 7 93 119, iSHL, ICMP 2 25, iCONST (-1), iRET, iCONST 0, iST 4 0, bPUSH 99, iST 5 0, iCONST 0, iST 6 0, iLD 6 0, bPUSH 8, ICMP 3 51, aLD 0 1, gR 10 3 67 393, iLD 1 1, iLD 6 0, iLD 2 1, CALL 195 4 2 299 923, iST 7 0, iLD 7 0, bPUSH 99, ICMP 3 45, IINC 4 1, iLD 5 0, iLD 7 0, MMIN 302 587, iST 5 0, IINC 6 1, GOTO 31, iLD 3 1, IFC 1 55, iLD 4 0, GOTO 57, iLD 5 0, CALL 137 1 0 245 759, iRET]
def cd_197 : List am_I := [aLD 0 1, gR 11 0 7 1021, aLD 0 1, gR 11 1 13 1022, CALL 90 2 0 137 1180, aLD 0 1, gR 11 1 13 1022, iCONST 3, iALD, aLD 0 1, gR 11 1 13 1022, iCONST 2, iALD, ICMP 3 39, aLD 0 1, iLD 1 1, pI 11 14 170 1035, aLD 0 1, aLD 0 1, gR 11 1 13 1022, iLD 3 1, CALL 126 3 2 183 1242, POP, aLD 0 1, gI 11 15 157 1036, IFC 0 5, aLD 0 1, gI 11 15 157 1036, iLD 2 1, ICMP 1 37, aLD 0 1, gR 11 1 13 1022, iCONST 3, iALD, iCONST 1, iSUB, GOTO 38, iCONST (-1), iRET, iCONST (-1), iRET]
def cd_198 : List am_I := [aLD 0 1, iLD 1 1, CALL 33 2 2 70 1107, IFC 0 21, iLD 2 1, iCONST 1, iCONST 1, aLD 0 1, gR 11 0 7 1021, iCONST 1, iALD, iSHL, iCONST 1, iSUB, CALL 17 3 0 47 1083, IFC 0 21, iLD 3 1, iCONST 0, iCONST 1, CALL 17 3 0 47 1083, IFC 1 23, iCONST (-1), iRET, iCONST 0, iST 4 0, iCONST (-1), iST 5 0, iCONST 0, iST 6 0, iLD 6 0, bPUSH 8, ICMP 3 59, aLD 0 1, iLD 1 1, iLD 2 1, iLD 6 0, CALL 197 4 2 227 1357, iST 7 0, iLD 7 0, IFC 2 47, iLD 5 0, IFC 2 45, iLD 7 0, iLD 5 0, ICMP 3 47, iLD 7 0, GOTO 48, iLD 5 0, iST 5 0, iLD 4 0, iLD 7 0, IFC 2 54, iCONST 1, GOTO 55, iCONST 0, iADD, iST 4 0, IINC 6 1, GOTO 29, iLD 3 1, IFC 1 63, iLD 4 0, GOTO 68, iLD 5 0, IFC 3 67, bPUSH (-4), GOTO 68, iLD 5 0, iRET]
def cd_199 : List am_I := [iCONST 0, iST 2 1, iLD 2 1, bPUSH 8, ICMP 3 16, aLD 0 1, gR 5 0 11 204, iLD 2 1, aALD, aLD 1 1, gR 5 0 11 204, iLD 2 1, aALD, CALL 110 2 2 25 680, IINC 2 1, GOTO 2, aLD 0 1, aLD 1 1, gI 5 1 17 205, pI 5 1 17 205, aLD 0 1, aLD 1 1, gI 5 2 21 206, pI 5 2 21 206, vRET]
def cd_200 : List am_I := [aLD 0 1, gR 9 0 12 216, aLD 1 1, gR 9 0 12 216, CALL 87 2 2 71 635, aLD 0 1, gR 9 1 21 220, aLD 1 1, gR 9 1 21 220, CALL 72 2 2 64 580, aLD 0 1, gR 9 2 28 223, aLD 1 1, gR 9 2 28 223, CALL 110 2 2 82 940, aLD 0 1, gR 9 3 35 226, aLD 1 1, gR 9 3 35 226, CALL 199 2 2 85 941, vRET]
def cd_201 : List am_I := [aLD 0 1, gR 10 1 10 391, aLD 0 1, gR 10 0 59 390, CALL 200 2 2 307 936, aLD 0 1, iCONST 1, pZ 10 2 16 392, iCONST 1, iRET]
def cd_202 : List am_I := [aLD 0 1, gR 11 0 7 1021, aLD 0 1, gR 11 3 19 1024, CALL 90 2 0 137 1180, aLD 0 1, iCONST 1, pZ 11 4 230 1025, iCONST 1, iRET]
def cd_203 : List am_I := [aLD 0 1, gI 10 2 16 392, IFC 1 5, bPUSH (-4), iRET, aLD 0 1, gR 10 0 59 390, aLD 0 1, gR 10 1 10 391, CALL 200 2 2 307 936, iCONST 1, iRET]
def cd_204 : List am_I := [aLD 0 1, gI 11 4 230 1025, IFC 1 5, bPUSH (-4), iRET, aLD 0 1, gR 11 3 19 1024, aLD 0 1, gR 11 0 7 1021, CALL 90 2 0 137 1180, iCONST 1, iRET]
def cd_205 : List am_I := [iLD 0 1, iCONST 4, CALL 12 2 0 78 428, IFC 0 10, iLD 1 1, iCONST 4, CALL 12 2 0 78 428, IFC 0 10, iCONST 1, GOTO 11, iCONST 0, zRET]
def cd_206 : List am_I := [iLD 1 1, IFC 2 16, iLD 2 1, IFC 2 16, iLD 2 1, aLD 0 1, gI 6 3 23 314, ICMP 4 16, iLD 1 1, aLD 0 1, gI 6 3 23 314, iLD 2 1, iSUB, ICMP 4 16, iCONST 1, GOTO 17, iCONST 0, zRET]
def cd_207 : List am_I := [aLD 0 1, gI 6 1 15 310, IFC 0 5, bPUSH (-11), iRET, iLD 1 1, aLD 0 1, gI 6 2 19 312, ICMP 0 11, bPUSH (-12), iRET, aLD 0 1, iLD 2 1, iLD 3 1, CALL 206 3 2 38 960, IFC 0 18, iCONST 0, GOTO 19, bPUSH (-13), iRET]
def cd_208 : List am_I := [iLD 1 1, bPUSH 24, CALL 12 2 1 42 973, IFC 0 9, aLD 0 1, gR 6 0 9 308, iLD 1 1, lALD, GOTO 10, lCONST 0, lRET]
def cd_209 : List am_I := [aLD 0 1, gR 4 0 44 334, aLD 0 1, gR 4 1 12 335, iLD 1 1, aLD 0 1, gR 4 0 44 334, iLD 1 1, CALL 39 2 2 80 750, CALL 42 4 2 48 751, aLD 0 1, gR 4 1 12 335, iLD 2 1, pI 0 1 181 250, iCONST 0, iST 6 0, iLD 6 0, iLD 5 0, ICMP 3 47, aLD 0 1, gR 4 1 12 335, aLD 0 1, gR 4 0 44 334, gR 9 1 54 221, aLD 0 1, gR 4 0 44 334, gR 9 2 58 224, gI 3 4 62 177, iLD 6 0, iADD, CALL 100 2 2 97 770, CALL 114 2 2 109 775, aLD 0 1, gR 4 1 12 335, CALL 43 1 2 184 968, ITL, aLD 3 1, iLD 4 0, iLD 6 0, iADD, CALL 208 2 2 187 969, lCMP, IFC 0 45, iCONST 0, zRET, IINC 6 1, GOTO 16, iCONST 1, zRET]
def cd_210 : List am_I := [aLD 0 1, gR 10 0 59 390, gR 9 0 82 217, iLD 1 1, CALL 28 2 2 104 469, IFC 0 14, iLD 2 1, iLD 3 1, CALL 205 2 0 310 953, IFC 0 14, iLD 6 0, iCONST 2, CALL 12 2 0 78 428, IFC 1 16, iCONST (-1), iRET, iLD 5 0, iCONST 1, ICMP 2 27, iLD 5 0, bPUSH 8, ICMP 4 27, iLD 5 0, aLD 0 1, gR 10 0 59 390, CALL 109 1 2 228 667, ICMP 5 29, iCONST (-1), iRET, aLD 0 1, gR 10 10 55 400, iLD 2 1, aALD, iLD 3 1, iLD 4 0, iLD 5 0, CALL 207 4 2 313 956, iST 7 0, iLD 7 0, IFC 0 42, iLD 7 0, iRET, iCONST 0, iST 8 0, bPUSH (-4), iST 9 0, bPUSH 99, iST 10 0, iLD 10 0, IFC 2 67, aLD 0 1, gR 10 3 67 393, iLD 1 1, iLD 10 0, aLD 0 1, gR 10 10 55 400, iLD 2 1, aALD, iLD 4 0, iLD 5 0, CALL 209 6 2 316 964, IFC 0 65, IINC 8 1, iLD 10 0, iST 9 0, IINC 10 (-1), GOTO 48, iLD 6 0, IFC 1 71, iLD 8 0, GOTO 72, iLD 9 0, iRET]
def cd_211 : List am_I := [iLD 0 1, iCONST 0, iCONST 3, CALL 17 3 0 47 1083, zRET]
def cd_212 : List am_I := [iLD 0 1, iCONST 0, iCONST 3, CALL 17 3 0 47 1083, zRET]
def cd_213 : List am_I := [aLD 0 1, gR 11 7 25 1028, iLD 1 1, iALD, IFC 3 7, bPUSH (-11), iRET, aLD 0 1, gR 11 7 25 1028, iLD 1 1, iALD, iLD 2 1, ICMP 0 15, bPUSH (-12), iRET, iLD 3 1, IFC 2 31, iLD 3 1, aLD 0 1, gR 11 8 28 1029, iLD 1 1, iALD, ICMP 4 31, iLD 4 0, aLD 0 1, gR 11 8 28 1029, iLD 1 1, iALD, iLD 3 1, iSUB, ICMP 5 33, bPUSH (-13), GOTO 34, iCONST 0, iRET]
def cd_214 : List am_I := [aLD 0 1, gR 11 0 7 1021, aLD 0 1, gR 11 1 13 1022, CALL 90 2 0 137 1180, aLD 0 1, gR 11 1 13 1022, iLD 1 1, CALL 18 1 0 51 1089, iCONST 1, iADD, iLD 2 1, iAST, iCONST 1, iST 5 0, iCONST 0, iST 6 0, iLD 6 0, iLD 4 0, ICMP 3 61, aLD 0 1, gR 11 1 13 1022, iLD 1 1, CALL 45 2 0 76 1126, IFC 0 40, aLD 0 1, gR 11 1 13 1022, iLD 1 1, aLD 0 1, gR 11 1 13 1022, bPUSH 66, aLD 0 1, gR 11 1 13 1022, iCONST 3, iALD, iADD, iLD 6 0, iADD, iALD, CALL 123 3 0 160 1246, iLD 5 0, IFC 0 57, aLD 0 1, gR 11 9 31 1030, iLD 3 1, iLD 6 0, iADD, lALD, aLD 0 1, gR 11 1 13 1022, iLD 1 1, CALL 47 2 0 84 1132, ITL, lCMP, IFC 1 57, iCONST 1, GOTO 58, iCONST 0, iST 5 0, IINC 6 1, GOTO 17, iLD 5 0, zRET]
def cd_215 : List am_I := [aLD 0 1, iLD 1 1, CALL 33 2 2 70 1107, IFC 0 31, iLD 2 1, CALL 211 1 0 233 1373, IFC 0 31, iLD 3 1, CALL 212 1 0 236 1376, IFC 0 31, iLD 5 0, iCONST 1, bPUSH 8, CALL 17 3 0 47 1083, IFC 0 31, iLD 5 0, aLD 0 1, gR 11 0 7 1021, iCONST 2, iALD, aLD 0 1, gR 11 0 7 1021, iCONST 3, iALD, iSUB, ICMP 4 31, iLD 6 0, iCONST 0, iCONST 1, CALL 17 3 0 47 1083, IFC 1 33, iCONST (-1), iRET, aLD 0 1, iLD 2 1, iLD 3 1, iLD 4 0, iLD 5 0, CALL 213 5 2 239 1379, iST 7 0, iLD 7 0, IFC 0 44, iLD 7 0, iRET, iCONST 0, iST 8 0, bPUSH (-4), iST 9 0, iCONST 0, iST 10 0, iLD 10 0, bPUSH 100, ICMP 3 82, aLD 0 1, iLD 1 1, iLD 10 0, bPUSH 24, iLD 2 1, iMUL, iLD 4 0, iADD, iLD 5 0, CALL 214 5 2 243 1383, iST 11 0, iLD 11 0, IFC 0 70, iLD 8 0, IFC 1 70, iLD 10 0, GOTO 71, iLD 9 0, iST 9 0, iLD 8 0, iLD 11 0, IFC 0 77, iCONST 1, GOTO 78, iCONST 0, iADD, iST 8 0, IINC 10 1, GOTO 50, iLD 6 0, IFC 1 86, iLD 8 0, GOTO 87, iLD 9 0, iRET]
def cd_216 : List am_I := [aLD 0 1, gR 4 2 18 336, iCONST 0, CALL 79 2 0 128 814, iCONST 0, iST 2 1, iLD 2 1, aLD 0 1, gR 4 0 44 334, gR 9 0 71 218, gI 2 6 75 115, ICMP 3 18, aLD 0 1, iLD 2 1, iLD 1 1, CALL 194 3 2 173 927, IINC 2 1, GOTO 6, vRET]
def cd_217 : List am_I := [aLD 0 1, gI 6 2 19 312, TSW [0, 2, 17, 3, 8, 13], lLD 1 1, LTI, ITB, ITL, lRET, lLD 1 1, LTI, ITS, ITL, lRET, lLD 1 1, LTI, ITL, lRET, lLD 1 1, lRET]
def cd_218 : List am_I := [iLD 1 1, bPUSH 24, CALL 12 2 1 42 973, IFC 0 11, aLD 0 1, gR 6 0 9 308, iLD 1 1, aLD 0 1, lLD 2 1, CALL 217 2 2 45 986, lAST, vRET]
def cd_219 : List am_I := [iLD 1 1, bPUSH 8, CALL 12 2 0 78 428, IFC 0 8, iLD 2 1, iLD 3 1, CALL 205 2 0 310 953, IFC 1 10, iCONST (-1), iRET, aLD 0 1, gR 10 0 59 390, CALL 109 1 2 228 667, iST 5 0, aLD 0 1, gR 10 10 55 400, iLD 2 1, aALD, iLD 3 1, iLD 4 0, iLD 5 0, CALL 207 4 2 313 956, iST 6 0, iLD 6 0, IFC 0 27, iLD 6 0, iRET, aLD 0 1, gR 10 3 67 393, iLD 1 1, CALL 216 2 2 320 978, iCONST 0, iST 7 0, iLD 7 0, iLD 5 0, ICMP 3 57, aLD 0 1, gR 10 10 55 400, iLD 2 1, aALD, iLD 4 0, iLD 7 0, iADD, aLD 0 1, gR 10 3 67 393, gR 4 2 323 337, aLD 0 1, gR 10 0 59 390, gR 9 2 107 225, gI 3 4 205 179, iLD 7 0, iADD, iALD, ITL, CALL 218 3 2 326 982, IINC 7 1, GOTO 33, iLD 5 0, iRET]
def cd_220 : List am_I := [iLD 0 1, IFC 1 4, bPUSH 56, GOTO 15, iLD 0 1, iCONST 1, ICMP 1 9, bPUSH 48, GOTO 15, iLD 0 1, iCONST 2, ICMP 1 14, bPUSH 32, GOTO 15, iCONST 0, iST 3 1, lLD 1 1, iLD 3 1, lSHL, iLD 3 1, lSHR, lRET]
def cd_221 : List am_I := [iLD 1 1, iCONST 0, bPUSH 7, CALL 17 3 0 47 1083, IFC 0 11, iLD 2 1, CALL 211 1 0 233 1373, IFC 0 11, iLD 3 1, CALL 212 1 0 236 1376, IFC 1 13, iCONST (-1), iRET, aLD 0 1, gR 11 0 7 1021, iCONST 2, iALD, aLD 0 1, gR 11 0 7 1021, iCONST 3, iALD, iSUB, iST 5 0, aLD 0 1, iLD 2 1, iLD 3 1, iLD 4 0, iLD 5 0, CALL 213 5 2 239 1379, iST 6 0, iLD 6 0, IFC 0 34, iLD 6 0, iRET, aLD 0 1, gR 11 0 7 1021, aLD 0 1, gR 11 1 13 1022, CALL 90 2 0 137 1180, iCONST 0, iST 7 0, iLD 7 0, iLD 5 0, ICMP 3 64, aLD 0 1, gR 11 9 31 1030, bPUSH 24, iLD 2 1, iMUL, iLD 4 0, iADD, iLD 7 0, iADD, iLD 3 1, aLD 0 1, aLD 0 1, gR 11 1 13 1022, iLD 1 1, CALL 126 3 2 183 1242, ITL, CALL 220 2 0 247 1391, lAST, IINC 7 1, GOTO 41, iLD 5 0, iRET]
def cd_222 : List am_I := [iCONST 0, iST 3 1, aLD 0 1, aLEN, iST 4 0, iLD 3 1, iLD 4 0, ICMP 3 14, aLD 0 1, iLD 3 1, lLD 1 1, lAST, IINC 3 1, GOTO 5, vRET]
def cd_223 : List am_I := [aLD 0 1, iCONST 0, pZ 6 1 15 310, aLD 0 1, iLD 1 1, pI 6 2 19 312, aLD 0 1, iLD 2 1, bPUSH 24, MMIN 26 998, pI 6 3 23 314, aLD 0 1, gR 6 0 9 308, lCONST 0, CALL 222 2 0 32 999, vRET]
def cd_224 : List am_I := [iLD 1 1, iLD 2 1, CALL 205 2 0 310 953, IFC 0 7, iLD 3 1, bPUSH 24, ICMP 5 9, iCONST (-1), iRET, iLD 3 1, IFC 3 13, bPUSH (-14), iRET, aLD 0 1, gR 10 10 55 400, iLD 1 1, aALD, iLD 2 1, iLD 3 1, CALL 223 3 2 330 994, iLD 3 1, iRET]
def cd_225 : List am_I := [iLD 1 1, CALL 211 1 0 233 1373, IFC 0 9, iLD 2 1, CALL 212 1 0 236 1376, IFC 0 9, iLD 3 1, bPUSH 24, ICMP 5 11, iCONST (-1), iRET, iLD 3 1, IFC 3 15, bPUSH (-14), iRET, aLD 0 1, gR 11 7 25 1028, iLD 1 1, iLD 2 1, iAST, aLD 0 1, gR 11 8 28 1029, iLD 1 1, iLD 3 1, iAST, iCONST 0, iST 4 0, iLD 4 0, bPUSH 24, ICMP 3 41, aLD 0 1, gR 11 9 31 1030, bPUSH 24, iLD 1 1, iMUL, iLD 4 0, iADD, lCONST 0, lAST, IINC 4 1, GOTO 27, iLD 3 1, iRET]
def cd_226 : List am_I := [iLD 1 1, iCONST 4, CALL 12 2 0 78 428, IFC 1 6, iCONST (-1), iRET, aLD 0 1, gR 10 10 55 400, iLD 1 1, aALD, gI 6 1 334 311, IFC 0 14, bPUSH (-11), iRET, aLD 0 1, gR 10 10 55 400, iLD 1 1, aALD, iCONST 1, pZ 6 1 334 311, aLD 0 1, gR 10 10 55 400, iLD 1 1, aALD, gI 6 3 337 315, iRET]
def cd_227 : List am_I := [iLD 1 1, CALL 211 1 0 233 1373, IFC 1 5, iCONST (-1), iRET, aLD 0 1, gR 11 7 25 1028, iLD 1 1, iALD, IFC 3 12, bPUSH (-11), iRET, aLD 0 1, gR 11 7 25 1028, iLD 1 1, iCONST (-1), iAST, aLD 0 1, gR 11 8 28 1029, iLD 1 1, iALD, iRET]
def cd_228 : List am_I := [iLD 1 1, iLD 2 1, CALL 205 2 0 310 953, IFC 1 6, iCONST (-1), iRET, aLD 0 1, gR 10 10 55 400, iLD 1 1, aALD, iLD 2 1, iLD 3 1, iCONST 1, CALL 207 4 2 313 956, iST 6 0, iLD 6 0, IFC 0 19, iLD 6 0, iRET, aLD 0 1, gR 10 10 55 400, iLD 1 1, aALD, iLD 3 1, lLD 4 0, CALL 218 3 2 326 982, iCONST 1, iRET]
def cd_229 : List am_I := [iLD 1 1, CALL 211 1 0 233 1373, IFC 0 6, iLD 2 1, CALL 212 1 0 236 1376, IFC 1 8, iCONST (-1), iRET, aLD 0 1, iLD 1 1, iLD 2 1, iLD 3 1, iCONST 1, CALL 213 5 2 239 1379, iST 6 0, iLD 6 0, IFC 0 19, iLD 6 0, iRET, aLD 0 1, gR 11 9 31 1030, bPUSH 24, iLD 1 1, iMUL, iLD 3 1, iADD, iLD 2 1, lLD 4 0, CALL 220 2 0 247 1391, lAST, iCONST 1, iRET]
def cd_230 : List am_I := [iLD 1 1, iCONST 4, CALL 12 2 0 78 428, IFC 0 8, iLD 3 1, iCONST 4, CALL 12 2 0 78 428, IFC 1 10, iCONST (-1), iRET, aLD 0 1, gR 10 10 55 400, iLD 1 1, aALD, aST 6 0, aLD 0 1, gR 10 10 55 400, iLD 3 1, aALD, aST 7 0, aLD 6 0, gI 6 1 334 311, IFC 1 26, aLD 7 0, gI 6 1 334 311, IFC 0 28, bPUSH (-11), iRET, aLD 6 0, gI 6 2 338 313, aLD 7 0, gI 6 2 338 313, ICMP 0 35, bPUSH (-12), iRET, aLD 6 0, iLD 2 1, iLD 5 0, CALL 206 3 2 341 1014, IFC 0 45, aLD 7 0, iLD 4 0, iLD 5 0, CALL 206 3 2 341 1014, IFC 1 47, bPUSH (-13), iRET, aLD 6 0, gR 6 0 344 309, iLD 2 1, aLD 7 0, gR 6 0 344 309, iLD 4 0, iLD 5 0, ACPY 348 590, iLD 5 0, iRET]
def cd_231 : List am_I := [iLD 1 1, CALL 211 1 0 233 1373, IFC 0 6, iLD 3 1, CALL 211 1 0 233 1373, IFC 1 8, iCONST (-1), iRET, aLD 0 1, gR 11 7 25 1028, iLD 1 1, iALD, IFC 2 18, aLD 0 1, gR 11 7 25 1028, iLD 3 1, iALD, IFC 3 20, bPUSH (-11), iRET, aLD 0 1, gR 11 7 25 1028, iLD 1 1, iALD, aLD 0 1, gR 11 7 25 1028, iLD 3 1, iALD, ICMP 0 31, bPUSH (-12), iRET, iLD 5 0, IFC 2 53, aLD 0 1, iLD 1 1, aLD 0 1, gR 11 7 25 1028, iLD 1 1, iALD, iLD 2 1, iLD 5 0, CALL 213 5 2 239 1379, IFC 1 53, aLD 0 1, iLD 3 1, aLD 0 1, gR 11 7 25 1028, iLD 3 1, iALD, iLD 4 0, iLD 5 0, CALL 213 5 2 239 1379, IFC 0 55, bPUSH (-13), iRET, iCONST 0, iST 6 0, iLD 6 0, iLD 5 0, ICMP 3 76, aLD 0 1, gR 11 10 35 1031, iLD 6 0, aLD 0 1, gR 11 9 31 1030, bPUSH 24, iLD 1 1, iMUL, iLD 2 1, iADD, iLD 6 0, iADD, lALD, lAST, IINC 6 1, GOTO 57, iCONST 0, iST 6 0, iLD 6 0, iLD 5 0, ICMP 3 97, aLD 0 1, gR 11 9 31 1030, bPUSH 24, iLD 3 1, iMUL, iLD 4 0, iADD, iLD 6 0, iADD, aLD 0 1, gR 11 10 35 1031, iLD 6 0, lALD, lAST, IINC 6 1, GOTO 78, iLD 5 0, iRET]
def cd_232 : List am_I := [NEW 10 7 73, DUP, CALL 10 1 4 9 75, aST 1 1, NEW 11 10 1015, DUP, CALL 11 1 4 12 1017, aST 2 1, iCONST 0, iST 3 1, iLD 3 1, aLD 0 1, aLEN, bPUSH 7, iSUB, ICMP 4 893, aLD 0 1, iLD 3 1, iALD, bPUSH 63, iAND, TSW [0, 34, 891, 22, 39, 96, 123, 140, 167, 194, 231, 258, 295, 312, 319, 326, 343, 360, 367, 374, 381, 398, 415, 432, 449, 456, 473, 490, 507, 544, 581, 588, 595, 662, 709, 746, 763, 834], aLD 1 1, aLD 0 1, iLD 3 1, iCONST 1, iADD, iALD, CALL 16 2 2 13 424, aLD 2 1, aLD 0 1, iLD 3 1, iCONST 1, iADD, iALD, CALL 20 2 2 17 1079, ICMP 0 891, iCONST 0, zRET, aLD 1 1, aLD 0 1, iLD 3 1, iCONST 1, iADD, iALD, aLD 0 1, iLD 3 1, iCONST 2, iADD, iALD, aLD 0 1, iLD 3 1, iCONST 3, iADD, iALD, aLD 0 1, iLD 3 1, iCONST 4, iADD, iALD, aLD 0 1, iLD 3 1, iCONST 5, iADD, iALD, CALL 24 6 2 18 444, aLD 2 1, aLD 0 1, iLD 3 1, iCONST 1, iADD, iALD, aLD 0 1, iLD 3 1, iCONST 2, iADD, iALD, aLD 0 1, iLD 3 1, iCONST 3, iADD, iALD, aLD 0 1, iLD 3 1, iCONST 4, iADD, iALD, aLD 0 1, iLD 3 1, iCONST 5, iADD, iALD, CALL 26 6 2 22 1092, ICMP 0 891, iCONST 0, zRET, aLD 1 1, aLD 0 1, iLD 3 1, iCONST 1, iADD, iALD, aLD 0 1, iLD 3 1, iCONST 2, iADD, iALD, CALL 31 3 2 23 460, aLD 2 1, aLD 0 1, iLD 3 1, iCONST 1, iADD, iALD, aLD 0 1, iLD 3 1, iCONST 2, iADD, iALD, CALL 36 3 2 27 1099, ICMP 0 891, iCONST 0, zRET, aLD 1 1, aLD 0 1, iLD 3 1, iCONST 1, iADD, iALD, CALL 37 2 2 28 480, aLD 2 1, aLD 0 1, iLD 3 1, iCONST 1, iADD, iALD, CALL 38 2 2 31 1118, ICMP 0 891, iCONST 0, zRET, aLD 1 1, aLD 0 1, iLD 3 1, iCONST 1, iADD, iALD, aLD 0 1, iLD 3 1, iCONST 2, iADD, iALD, CALL 44 3 2 32 484, aLD 2 1, aLD 0 1, iLD 3 1, iCONST 1, iADD, iALD, aLD 0 1, iLD 3 1, iCONST 2, iADD, iALD, CALL 48 3 2 35 1122, ICMP 0 891, iCONST 0, zRET, aLD 1 1, aLD 0 1, iLD 3 1, iCONST 1, iADD, iALD, aLD 0 1, iLD 3 1, iCONST 2, iADD, iALD, CALL 52 3 2 36 508, aLD 2 1, aLD 0 1, iLD 3 1, iCONST 1, iADD, iALD, aLD 0 1, iLD 3 1, iCONST 2, iADD, iALD, CALL 54 3 2 39 1135, ICMP 0 891, iCONST 0, zRET, aLD 1 1, aLD 0 1, iLD 3 1, iCONST 1, iADD, iALD, aLD 0 1, iLD 3 1, iCONST 2, iADD, iALD, aLD 0 1, iLD 3 1, iCONST 3, iADD, iALD, CALL 57 4 2 40 527, aLD 2 1, aLD 0 1, iLD 3 1, iCONST 1, iADD, iALD, aLD 0 1, iLD 3 1, iCONST 2, iADD, iALD, aLD 0 1, iLD 3 1, iCONST 3, iADD, iALD, CALL 59 4 2 44 1142, ICMP 0 891, iCONST 0, zRET, aLD 1 1, aLD 0 1, iLD 3 1, iCONST 1, iADD, iALD, aLD 0 1, iLD 3 1, iCONST 2, iADD, iALD, CALL 60 3 2 45 541, aLD 2 1, aLD 0 1, iLD 3 1, iCONST 1, iADD, iALD, aLD 0 1, iLD 3 1, iCONST 2, iADD, iALD, CALL 61 3 2 48 1149, ICMP 0 891, iCONST 0, zRET, aLD 1 1, aLD 0 1, iLD 3 1, iCONST 1, iADD, iALD, aLD 0 1, iLD 3 1, iCONST 2, iADD, iALD, aLD 0 1, iLD 3 1, iCONST 3, iADD, iALD, CALL 62 4 2 49 545, aLD 2 1, aLD 0 1, iLD 3 1, iCONST 1, iADD, iALD, aLD 0 1, iLD 3 1, iCONST 2, iADD, iALD, aLD 0 1, iLD 3 1, iCONST 3, iADD, iALD, CALL 63 4 2 52 1153, ICMP 0 891, iCONST 0, zRET, aLD 1 1, aLD 0 1, iLD 3 1, iCONST 1, iADD, iALD, CALL 65 2 2 53 549, aLD 2 1, aLD 0 1, iLD 3 1, iCONST 1, iADD, iALD, CALL 66 2 2 56 1157, ICMP 0 891, iCONST 0, zRET, aLD 1 1, CALL 74 1 2 57 557, aLD 2 1, CALL 78 1 2 61 1161, ICMP 0 891, iCONST 0, zRET, aLD 1 1, CALL 89 1 2 62 593, aLD 2 1, CALL 99 1 2 65 1176, ICMP 0 891, iCONST 0, zRET, aLD 1 1, aLD 0 1, iLD 3 1, iCONST 1, iADD, iALD, CALL 101 2 2 66 641, aLD 2 1, aLD 0 1, iLD 3 1, iCONST 1, iADD, iALD, CALL 102 2 2 69 1214, ICMP 0 891, iCONST 0, zRET, aLD 1 1, aLD 0 1, iLD 3 1, iCONST 1, iADD, iALD, CALL 105 2 2 70 649, aLD 2 1, aLD 0 1, iLD 3 1, iCONST 1, iADD, iALD, CALL 108 2 2 73 1218, ICMP 0 891, iCONST 0, zRET, aLD 1 1, CALL 120 1 2 74 663, aLD 2 1, CALL 127 1 2 77 1230, ICMP 0 891, iCONST 0, zRET, aLD 1 1, CALL 129 1 2 78 726, aLD 2 1, CALL 130 1 2 81 1258, ICMP 0 891, iCONST 0, zRET, aLD 1 1, CALL 131 1 2 82 734, aLD 2 1, CALL 132 1 2 85 1262, ICMP 0 891, iCONST 0, zRET, aLD 1 1, aLD 0 1, iLD 3 1, iCONST 1, iADD, iALD, CALL 133 2 2 86 738, aLD 2 1, aLD 0 1, iLD 3 1, iCONST 1, iADD, iALD, CALL 134 2 2 89 1266, ICMP 0 891, iCONST 0, zRET, aLD 1 1, aLD 0 1, iLD 3 1, iCONST 1, iADD, iALD, CALL 138 2 2 90 742, aLD 2 1, aLD 0 1, iLD 3 1, iCONST 1, iADD, iALD, CALL 141 2 2 93 1270, ICMP 0 891, iCONST 0, zRET, aLD 1 1, aLD 0 1, iLD 3 1, iCONST 1, iADD, iALD, CALL 145 2 2 94 762, aLD 2 1, aLD 0 1, iLD 3 1, iCONST 1, iADD, iALD, CALL 147 2 2 97 1282, ICMP 0 891, iCONST 0, zRET, aLD 1 1, aLD 0 1, iLD 3 1, iCONST 1, iADD, iALD, CALL 157 2 2 98 782, aLD 2 1, aLD 0 1, iLD 3 1, iCONST 1, iADD, iALD, CALL 161 2 2 101 1290, ICMP 0 891, iCONST 0, zRET, aLD 1 1, CALL 163 1 2 102 828, aLD 2 1, CALL 164 1 2 105 1305, ICMP 0 891, iCONST 0, zRET, aLD 1 1, aLD 0 1, iLD 3 1, iCONST 1, iADD, iALD, CALL 168 2 2 106 837, aLD 2 1, aLD 0 1, iLD 3 1, iCONST 1, iADD, iALD, CALL 171 2 2 109 1309, ICMP 0 891, iCONST 0, zRET, aLD 1 1, aLD 0 1, iLD 3 1, iCONST 1, iADD, iALD, CALL 175 2 2 110 856, aLD 2 1, aLD 0 1, iLD 3 1, iCONST 1, iADD, iALD, CALL 178 2 2 113 1321, ICMP 0 891, iCONST 0, zRET, aLD 1 1, aLD 0 1, iLD 3 1, iCONST 1, iADD, iALD, CALL 186 2 2 114 874, aLD 2 1, aLD 0 1, iLD 3 1, iCONST 1, iADD, iALD, CALL 189 2 2 117 1333, ICMP 0 891, iCONST 0, zRET, aLD 1 1, aLD 0 1, iLD 3 1, iCONST 1, iADD, iALD, aLD 0 1, iLD 3 1, iCONST 2, iADD, iALD, aLD 0 1, iLD 3 1, iCONST 3, iADD, iALD, CALL 191 4 2 118 910, aLD 2 1, aLD 0 1, iLD 3 1, iCONST 1, iADD, iALD, aLD 0 1, iLD 3 1, iCONST 2, iADD, iALD, aLD 0 1, iLD 3 1, iCONST 3, iADD, iALD, CALL 193 4 2 121 1345, ICMP 0 891, iCONST 0, zRET, aLD 1 1, aLD 0 1, iLD 3 1, iCONST 1, iADD, iALD, aLD 0 1, iLD 3 1, iCONST 2, iADD, iALD, aLD 0 1, iLD 3 1, iCONST 3, iADD, iALD, CALL 196 4 2 122 919, aLD 2 1, aLD 0 1, iLD 3 1, iCONST 1, iADD, iALD, aLD 0 1, iLD 3 1, iCONST 2, iADD, iALD, aLD 0 1, iLD 3 1, iCONST 3, iADD, iALD, CALL 198 4 2 125 1353, ICMP 0 891, iCONST 0, zRET, aLD 1 1, CALL 201 1 2 126 932, aLD 2 1, CALL 202 1 2 129 1361, ICMP 0 891, iCONST 0, zRET, aLD 1 1, CALL 203 1 2 130 945, aLD 2 1, CALL 204 1 2 133 1365, ICMP 0 891, iCONST 0, zRET, aLD 1 1, aLD 0 1, iLD 3 1, iCONST 1, iADD, iALD, aLD 0 1, iLD 3 1, iCONST 2, iADD, iALD, aLD 0 1, iLD 3 1, iCONST 3, iADD, iALD, aLD 0 1, iLD 3 1, iCONST 4, iADD, iALD, aLD 0 1, iLD 3 1, iCONST 5, iADD, iALD, aLD 0 1, iLD 3 1, bPUSH 6, iADD, iALD, CALL 210 7 2 134 949, aLD 2 1, aLD 0 1, iLD 3 1, iCONST 1, iADD, iALD, aLD 0 1, iLD 3 1, iCONST 2, iADD, iALD, aLD 0 1, iLD 3 1, iCONST 3, iADD, iALD, aLD 0 1, iLD 3 1, iCONST 4, iADD, iALD, aLD 0 1, iLD 3 1, iCONST 5, iADD, iALD, aLD 0 1, iLD 3 1, bPUSH 6, iADD, iALD, CALL 215 7 2 138 1369, ICMP 0 891, iCONST 0, zRET, aLD 1 1, aLD 0 1, iLD 3 1, iCONST 1, iADD, iALD, aLD 0 1, iLD 3 1, iCONST 2, iADD, iALD, aLD 0 1, iLD 3 1, iCONST 3, iADD, iALD, aLD 0 1, iLD 3 1, iCONST 4, iADD, iALD, CALL 219 5 2 139 974, aLD 2 1, aLD 0 1, iLD 3 1, iCONST 1, iADD, iALD, aLD 0 1, iLD 3 1, iCONST 2, iADD, iALD, aLD 0 1, iLD 3 1, iCONST 3, iADD, iALD, aLD 0 1, iLD 3 1, iCONST 4, iADD, iALD, CALL 221 5 2 143 1387, ICMP 0 891, iCONST 0, zRET, aLD 1 1, aLD 0 1, iLD 3 1, iCONST 1, iADD, iALD, aLD 0 1, iLD 3 1, iCONST 2, iADD, iALD, aLD 0 1, iLD 3 1, iCONST 3, iADD, iALD, CALL 224 4 2 144 990, aLD 2 1, aLD 0 1, iLD 3 1, iCONST 1, iADD, iALD, aLD 0 1, iLD 3 1, iCONST 2, iADD, iALD, aLD 0 1, iLD 3 1, iCONST 3, iADD, iALD, CALL 225 4 2 147 1394, ICMP 0 891, iCONST 0, zRET, aLD 1 1, aLD 0 1, iLD 3 1, iCONST 1, iADD, iALD, CALL 226 2 2 148 1002, aLD 2 1, aLD 0 1, iLD 3 1, iCONST 1, iADD, iALD, CALL 227 2 2 151 1398, ICMP 0 891, iCONST 0, zRET, aLD 1 1, aLD 0 1, iLD 3 1, iCONST 1, iADD, iALD, aLD 0 1, iLD 3 1, iCONST 2, iADD, iALD, aLD 0 1, iLD 3 1, iCONST 3, iADD, iALD, aLD 0 1, iLD 3 1, iCONST 4, iADD, iALD, ITL, bPUSH 32, lSHL, aLD 0 1, iLD 3 1, iCONST 5, iADD, iALD, ITL, LDC2 4294967295 152 1410, lAND, lOR, CALL 228 5 2 154 1006, aLD 2 1, aLD 0 1, iLD 3 1, iCONST 1, iADD, iALD, aLD 0 1, iLD 3 1, iCONST 2, iADD, iALD, aLD 0 1, iLD 3 1, iCONST 3, iADD, iALD, aLD 0 1, iLD 3 1, iCONST 4, iADD, iALD, ITL, bPUSH 32, lSHL, aLD 0 1, iLD 3 1, iCONST 5, iADD, iALD, ITL, LDC2 4294967295 152 1410, lAND, lOR, CALL 229 5 2 158 1402, ICMP 0 891, iCONST 0, zRET, aLD 1 1, aLD 0 1, iLD 3 1, iCONST 1, iADD, iALD, aLD 0 1, iLD 3 1, iCONST 2, iADD, iALD, aLD 0 1, iLD 3 1, iCONST 3, iADD, iALD, aLD 0 1, iLD 3 1, iCONST 4, iADD, iALD, aLD 0 1, iLD 3 1, iCONST 5, iADD, iALD, CALL 230 6 2 159 1010, aLD 2 1, aLD 0 1, iLD 3 1, iCONST 1, iADD, iALD, aLD 0 1, iLD 3 1, iCONST 2, iADD, iALD, aLD 0 1, iLD 3 1, iCONST 3, iADD, iALD, aLD 0 1, iLD 3 1, iCONST 4, iADD, iALD, aLD 0 1, iLD 3 1, iCONST 5, iADD, iALD, CALL 231 6 2 162 1406, ICMP 0 891, iCONST 0, zRET, IINC 3 7, GOTO 10, iCONST 1, zRET]
def pc_0 : List Nat := [0, 1, 4, 5, 6, 8, 11, 12, 14, 16, 19, 20, 22, 24, 27, 28, 30, 32, 35, 36, 38, 40, 43, 44, 46, 48, 51, 52, 53, 56, 57, 58, 61]
def pc_1 : List Nat := [0, 1, 4, 5, 7, 9, 12, 13, 14, 17]
def pc_2 : List Nat := [0, 1, 4, 5, 6, 8, 11, 12, 13, 15, 18, 19, 20, 22, 25, 26, 28, 30, 33, 34, 35, 38, 39, 40, 43]
def pc_3 : List Nat := [0, 1, 4, 5, 7, 10, 13, 14, 15, 18, 19, 20, 23, 24, 25, 26, 28, 31, 32, 35, 36, 39, 40, 43, 44, 47, 50]
def pc_4 : List Nat := [0, 1, 4, 5, 8, 9, 12, 15, 16, 19, 20, 23, 26, 27, 30, 31, 34, 37, 38, 41, 42, 45, 48]
def pc_5 : List Nat := [0, 1, 4, 5, 6, 9, 10, 11, 14, 15, 16, 19, 20, 21, 24, 25, 26, 29, 30, 31, 34, 35, 36, 39, 40, 41, 44]
def pc_6 : List Nat := [0, 1, 4, 5, 7, 9, 12, 13, 14, 17, 18, 19, 22]
def pc_7 : List Nat := [0, 1, 4, 5, 7, 9, 12, 13, 14, 17, 18, 19, 22, 23, 24, 27]
def pc_8 : List Nat := [0, 1, 4, 5, 8, 9, 12, 15, 16, 18, 20, 23, 24, 26, 28, 31, 32, 34, 36, 39, 40, 41, 44, 45, 48, 50, 53, 54, 56, 58, 61, 62, 64, 66, 69, 70, 72, 75, 76, 77, 80]
def pc_9 : List Nat := [0, 1, 4, 5, 7, 9, 12, 13, 15, 17, 20, 21, 22, 25, 26, 28, 30, 33, 34, 35, 38]
def pc_10 : List Nat := [0, 1, 4, 5, 8, 9, 12, 15, 16, 17, 20, 21, 24, 25, 28, 31, 32, 35, 36, 39, 42, 43, 46, 47, 50, 53, 54, 57, 58, 61, 64, 65, 67, 69, 72, 73, 74, 77, 78, 79, 82, 83, 86, 87, 88, 89, 92, 93, 96, 97, 98, 99, 102, 103, 106, 107, 108, 109, 112, 113, 116, 117, 120, 123, 124, 127, 128, 129, 130, 133, 134, 137, 138, 139, 142, 145, 146, 149, 150, 151, 154, 157]
def pc_11 : List Nat := [0, 1, 4, 5, 8, 10, 13, 14, 17, 19, 22, 23, 26, 28, 31, 32, 35, 37, 40, 41, 43, 45, 48, 49, 50, 52, 55, 56, 57, 59, 62, 63, 65, 67, 70, 71, 73, 75, 78, 79, 81, 83, 86, 87, 89, 91, 94, 95, 97, 99, 102, 103, 106, 107, 108, 109, 110, 111, 112, 113, 116, 117, 120, 121, 122, 123, 126, 129]
def pc_12 : List Nat := [0, 1, 4, 5, 6, 9, 10, 13, 14]
def pc_13 : List Nat := [0, 1, 2, 5, 8, 9, 10, 13, 14, 15, 16, 17, 20, 21, 22, 23, 24, 27, 28, 29, 30]
def pc_14 : List Nat := [0, 1, 4, 5, 8, 9, 10, 13, 14, 17, 18, 19, 20, 21, 24, 25, 26, 29]
def pc_15 : List Nat := [0, 1, 4, 5, 8, 11, 14, 15, 18, 19, 22, 23, 26, 27, 30]
def pc_16 : List Nat := [0, 1, 2, 5, 8, 9, 10, 11, 14, 17, 20, 21, 24, 26, 27, 28, 31, 32, 35, 36, 39, 42, 45, 46, 47]
def pc_17 : List Nat := [0, 1, 2, 5, 6, 7, 10, 11, 14, 15]
def pc_18 : List Nat := [0, 2, 3, 4, 5, 6]
def pc_19 : List Nat := [0, 1, 2, 3, 6, 7, 8, 9, 10, 11, 12, 13, 14, 15, 16, 17, 18, 19, 20, 21, 22, 23, 24, 25, 26, 27, 28, 29, 30, 31, 32, 33, 34, 35, 36, 37, 38, 39, 40, 41, 42]
def pc_20 : List Nat := [0, 1, 2, 3, 6, 9, 10, 11, 12, 15, 16, 17, 18, 21, 23, 24, 25, 28, 29, 32, 33, 36, 37, 38, 39, 40]
def pc_21 : List Nat := [0, 1, 3, 6, 9, 10, 11, 12, 15, 16, 17, 18, 19, 22, 23, 24, 25, 26]
def pc_22 : List Nat := [0, 1, 4, 6, 9, 10, 11, 14, 15, 18, 19, 20, 21, 24, 25, 28, 29, 30, 31, 34, 35, 38, 39, 40, 41, 44, 45, 48, 50, 51, 52, 55, 56, 59, 61, 62, 63, 64, 67, 68, 69, 72]
def pc_23 : List Nat := [0, 1, 4, 5, 8, 11, 12, 15, 16, 17, 20, 21, 22, 23, 25, 27, 30, 31, 34, 35, 38]
def pc_24 : List Nat := [0, 1, 2, 5, 6, 8, 11, 12, 14, 17, 20, 21, 23, 26, 29, 30, 31, 33, 35, 38, 41, 43, 44, 47, 50, 51, 52, 53, 56, 59, 62, 64, 67, 69, 70, 71, 74, 75, 76, 77, 79, 81, 84, 85, 88, 91, 94, 95, 96]
def pc_25 : List Nat := [0, 2, 4, 5, 6, 7]
def pc_26 : List Nat := [0, 1, 2, 4, 7, 10, 11, 12, 13, 16, 19, 20, 21, 22, 25, 28, 30, 31, 33, 36, 39, 41, 42, 43, 46, 49, 50, 51, 52, 55, 56, 57, 59, 62, 64, 65, 66, 69, 70, 71, 74, 76, 77, 80, 82, 83, 84, 85, 86, 87, 90, 92, 93, 94, 95, 96, 97, 100, 102, 103, 104, 105, 106, 107, 110, 112, 113, 114, 116, 117, 118, 121, 123, 124, 125, 127, 128, 129, 132, 134, 135, 136, 137, 138, 139, 142, 143, 144, 145, 146, 147, 148, 149, 152, 153, 154, 155, 156, 159, 160, 161, 162, 163]
def pc_27 : List Nat := [0, 1, 2, 5, 8]
def pc_28 : List Nat := [0, 1, 2, 5, 8]
def pc_29 : List Nat := [0, 1, 2, 3, 4, 5, 8, 9, 12, 13]
def pc_30 : List Nat := [0, 1, 2, 5, 8, 9, 11, 12, 14, 17, 18, 21, 22]
def pc_31 : List Nat := [0, 1, 4, 7, 8, 11, 14, 15, 18, 21, 22, 25, 28, 29, 30, 31, 34, 37, 40, 41, 42, 45, 48, 50, 51, 52, 55, 58, 59, 60, 63]
def pc_32 : List Nat := [0, 1, 2, 3, 6, 7, 8, 9, 10, 13]
def pc_33 : List Nat := [0, 1, 2, 3, 6, 7, 8, 9, 10, 13]
def pc_34 : List Nat := [0, 1, 2, 3, 4, 5, 6, 9, 10, 13, 14]
def pc_35 : List Nat := [0, 1, 4, 5, 8, 9, 10, 11, 12, 13, 14, 17, 20, 21, 22, 25, 28, 29, 30, 33, 36, 37, 40, 41]
def pc_36 : List Nat := [0, 1, 2, 5, 8, 9, 10, 13, 16, 17, 18, 19, 20, 23, 26, 28, 29, 30, 33, 34, 37, 38, 39, 40, 41, 42, 45, 46, 49, 50, 51, 52, 53, 54]
def pc_37 : List Nat := [0, 1, 4, 7, 8, 11, 14, 15, 16, 17, 20, 23, 24, 25, 28]
def pc_38 : List Nat := [0, 1, 2, 5, 8, 9, 10, 11, 14, 15, 18, 19, 20, 21, 22, 23, 26, 27, 30, 31, 32, 33, 34, 35]
def pc_39 : List Nat := [0, 1, 2, 3, 4, 5, 6, 9, 12, 15, 16, 19, 22, 23, 24, 25, 28, 29, 30, 31, 32, 33, 34, 37, 40, 41]
def pc_40 : List Nat := [0, 1, 2, 3, 4, 5, 6, 7, 10, 11, 12, 15, 18, 19, 20, 21, 22, 23, 24, 27, 30, 31]
def pc_41 : List Nat := [0, 1, 2, 5, 6, 7, 10, 11, 14, 17, 18, 19, 22, 23, 26, 29, 30, 31, 34, 35, 38, 41]
def pc_42 : List Nat := [0, 1, 4, 5, 8, 11, 12, 13, 14, 17, 20, 21, 22, 25, 26, 27, 30, 33, 34, 35, 38, 39, 40, 43, 46, 47, 48, 51, 52, 53, 56, 59, 60, 61, 64, 65, 66, 69, 70, 73]
def pc_43 : List Nat := [0, 1, 4, 5, 8, 9, 11, 12]
def pc_44 : List Nat := [0, 1, 4, 7, 8, 11, 14, 15, 16, 17, 20, 21, 24, 25, 26, 29, 30, 33, 36, 37, 80, 81, 84, 87, 88, 89, 92, 95, 96, 97, 100, 103, 104, 105, 108, 111, 112, 113, 116, 119, 120, 121, 124, 127, 128, 129, 132, 135, 136, 137]
def pc_45 : List Nat := [0, 1, 2, 3, 4, 5, 6, 7, 8, 11, 12, 13, 14, 17, 18, 19, 20, 21, 24, 25, 26, 27, 30, 31, 32, 33, 36, 39, 40]
def pc_46 : List Nat := [0, 1, 2, 3, 5, 7, 8, 9, 10, 13, 14, 15, 17, 20, 21, 22, 23, 24, 27, 28, 30, 33, 34, 35, 36, 39, 40, 41, 42, 45, 48, 49]
def pc_47 : List Nat := [0, 1, 2, 5, 6, 7, 8, 9, 10, 13, 14, 15, 16, 17, 19, 20]
def pc_48 : List Nat := [0, 1, 2, 5, 8, 9, 10, 12, 15, 18, 19, 20, 21, 22, 25, 26, 29, 30, 33, 34, 35, 36, 39, 40, 41, 44, 45, 48, 49, 52, 55, 56, 57, 60, 61, 64, 65, 66, 69, 72, 73, 76, 77, 80]
def pc_49 : List Nat := [0, 1, 4, 6, 7, 10, 11, 12, 13, 16, 17, 18, 19, 20, 21, 24, 26, 27, 30, 31, 32, 35, 36, 37, 39, 40, 43, 44, 45, 48, 49]
def pc_50 : List Nat := [0, 1, 2, 5, 7, 10, 12, 13, 14, 17, 18, 19]
def pc_51 : List Nat := [0, 1, 4, 32, 33, 34, 35, 38, 41, 42, 43, 44, 45, 48, 50, 51, 54, 55, 56, 57, 58, 61, 64, 65, 66, 67, 68, 71, 72, 75, 76, 78, 79, 82]
def pc_52 : List Nat := [0, 1, 4, 7, 8, 11, 14, 15, 16, 19, 22, 23, 24, 25, 28, 29, 32, 33, 34, 37, 38, 41, 44, 45, 48, 49, 52]
def pc_53 : List Nat := [0, 1, 4, 5, 6, 7, 8, 9, 10, 12, 14, 15, 18, 20, 21, 22, 23, 24, 25, 26, 27, 30, 31, 34, 35, 36, 37, 38, 39, 40, 41, 42, 44, 46, 47, 48, 49, 52, 55, 57, 60, 61, 62, 64, 66, 68, 69, 72, 74, 77, 78, 79, 81, 84, 86, 87, 88, 89, 90, 91, 92, 93, 94, 95, 96, 99, 101, 104, 105, 106, 108, 110, 112, 113, 116, 117, 118, 119, 120, 121, 123, 124, 127, 128, 129, 131, 133, 136, 137, 140, 142]
def pc_54 : List Nat := [0, 1, 2, 5, 8, 9, 10, 11, 14, 17, 18, 21, 22, 23, 26, 29, 30]
def pc_55 : List Nat := [0, 1, 2, 3, 4, 7, 8, 9, 10, 11, 14, 15, 16, 17, 18, 21, 22, 23, 24, 25, 26, 27, 28, 29, 32, 33, 34, 35, 36, 38, 39, 40, 41, 42, 43, 45, 46, 47, 48, 49, 51, 52]
def pc_56 : List Nat := [0, 1, 2, 5, 6, 7, 10, 11, 12, 13, 16, 18, 19, 20, 21, 23, 24, 25, 26, 29, 30, 31, 32, 33, 36, 38, 39, 42, 43, 45, 47, 50, 51, 54, 55, 57, 58]
def pc_57 : List Nat := [0, 1, 4, 7, 8, 11, 14, 15, 16, 19, 22, 23, 25, 28, 31, 32, 33, 34, 37, 38, 41, 42, 43, 46, 47, 50, 53, 54, 57, 58, 59, 62]
def pc_58 : List Nat := [0, 1, 2, 5, 6, 7, 8, 9, 12, 13, 14, 15, 16, 17, 20, 22, 23, 24, 25, 27, 28, 30, 31, 32, 35, 36, 37, 38, 40, 42, 43, 46, 49, 50, 53, 54, 56, 57, 60, 63, 64, 67, 68, 69, 71, 72, 75, 77, 80, 82, 85, 86, 89, 91, 93, 94]
def pc_59 : List Nat := [0, 1, 2, 5, 8, 9, 10, 11, 14, 17, 18, 19, 21, 24, 27, 28, 31, 32, 33, 34, 37, 40, 41]
def pc_60 : List Nat := [0, 1, 4, 7, 8, 9, 10, 13, 16, 17, 18, 19, 56, 57, 60, 61, 62, 63, 64, 67, 68, 69, 70, 71, 74, 75, 76, 77, 78, 81, 82, 83, 84, 85, 88, 89, 90, 91, 92, 95, 98, 101, 102, 103, 104, 105]
def pc_61 : List Nat := [0, 1, 2, 5, 8, 9, 10, 11, 14, 17, 18, 21, 22, 25, 26, 27, 28, 31, 32]
def pc_62 : List Nat := [0, 1, 4, 7, 8, 11, 14, 15, 16, 19, 22, 23, 26, 29, 32, 33, 34, 35, 38, 39, 42, 45, 48, 51, 52, 55, 58, 61, 63, 65, 66, 67, 69, 71, 72, 73, 74, 76]
def pc_63 : List Nat := [0, 1, 2, 5, 8, 9, 10, 11, 14, 17, 18, 19, 22, 25, 28, 29, 30, 31, 34, 35, 38, 39, 40, 41, 42, 43, 45, 46, 49, 50, 53, 54, 55, 56, 57, 58, 59, 61]
def pc_64 : List Nat := [0, 1, 4, 6, 9, 10, 11, 14, 15, 18, 19, 20, 21, 22, 25, 26, 27, 30]
def pc_65 : List Nat := [0, 1, 3, 6, 7, 9, 12, 13, 14, 15, 18, 21, 23, 26, 28, 29, 30, 33, 34, 37, 38, 41, 44]
def pc_66 : List Nat := [0, 1, 3, 5, 8, 11, 12, 13, 14, 17, 19, 22, 24, 25, 26, 29, 30, 33, 34, 35, 36, 37, 40, 41, 42, 45, 46, 49]
def pc_67 : List Nat := [0, 1, 4, 5, 8, 11, 12, 15, 17, 20, 21, 24, 25, 28, 29, 31, 34, 35, 36, 39, 40, 41, 44, 47, 48, 51, 52, 55, 58, 59, 62, 64, 67, 68, 71, 72, 75, 76, 79, 80]
def pc_68 : List Nat := [0, 1, 52, 53, 54, 55, 56, 57, 58, 59, 60, 61, 62, 63]
def pc_69 : List Nat := [0, 2, 3, 6, 7]
def pc_70 : List Nat := [0, 1, 2, 5, 6, 7, 8, 10, 13, 14, 17, 20, 21, 22, 25, 28, 29, 32, 33, 34, 35, 36, 37, 38, 39, 42, 43, 44, 47, 48, 49, 52, 53, 56, 57, 60, 61, 62, 63, 64, 67, 70, 71, 74]
def pc_71 : List Nat := [0, 1, 2, 3, 4, 5, 6, 7, 8, 11, 14]
def pc_72 : List Nat := [0, 1, 4, 5, 8, 11, 12, 13, 16, 19]
def pc_73 : List Nat := [0, 1, 4, 5, 8, 9, 12, 13, 16, 17, 20, 21, 24]
def pc_74 : List Nat := [0, 1, 4, 5, 8, 11, 12, 13, 16, 17, 20, 21, 24, 25, 28, 29, 32, 35, 36]
def pc_75 : List Nat := [0, 1, 4, 5, 8, 11, 12, 15, 16, 19, 20, 22, 25, 26, 27, 30, 31, 32, 35, 38, 39, 42, 43, 46, 49, 50, 53, 54, 57, 58, 61, 62]
def pc_76 : List Nat := [0, 1, 3, 6, 7, 10, 11, 13, 16, 17, 20, 21, 23, 26, 27, 30, 31, 33, 36, 37, 40, 41, 43, 46, 47, 50, 51]
def pc_77 : List Nat := [0, 1, 2, 5, 8, 9, 12, 13, 16, 19]
def pc_78 : List Nat := [0, 1, 2, 5, 6, 7, 10, 11, 12, 13, 14, 15, 17, 20, 21, 24, 27, 28, 29, 32, 33, 36, 37, 38, 39, 42, 43, 44, 47, 48, 49, 52, 55, 58, 59, 62, 65, 66, 69, 70, 71, 74, 77, 78, 79, 82, 83, 86, 89, 91, 92, 95, 96, 97, 98, 99, 100, 102, 105, 106, 109, 111, 112, 113, 114, 115, 118, 119, 122, 123, 124, 127, 128, 129, 132, 135, 136, 139, 140, 141, 142, 143, 146, 147, 148, 149, 150, 153, 154, 155, 156, 157]
def pc_79 : List Nat := [0, 1, 2, 3, 4, 5, 6, 7, 10, 11, 12, 13, 14, 17, 20]
def pc_80 : List Nat := [0, 1, 44, 45, 46, 47, 48, 49, 50, 51, 52, 53]
def pc_81 : List Nat := [0, 1, 2, 3, 4, 7, 8, 11, 14, 15, 16, 19, 20, 21, 22, 23, 26, 27, 28, 31, 32, 33, 36, 37, 40, 42, 44, 46, 49, 50, 51, 54, 55, 56, 59, 60, 61, 63, 65, 68, 69, 70, 73, 74, 75, 76, 77, 80, 81, 82, 85, 88, 91, 92]
def pc_82 : List Nat := [0, 1, 4, 5, 6, 9, 10, 11, 12, 13, 16, 17, 20, 23, 24, 27, 29, 32, 33, 36, 37, 40, 41, 43, 46, 47, 50, 51, 54, 55, 57, 60, 62, 63, 65, 66, 67, 70, 71, 74, 75, 76, 78, 79, 82, 83, 84, 85, 88, 89, 90, 93, 96, 97, 98, 101, 102, 104, 107, 108, 109, 110, 111, 114, 115]
def pc_83 : List Nat := [0, 1, 4, 5, 8, 9, 10, 11, 12, 15, 16, 17, 20, 21, 24, 26, 27, 29, 31, 32, 35, 38, 39, 40, 41, 42, 45, 46, 47, 50, 52]
def pc_84 : List Nat := [0, 1, 4, 5, 6, 9, 10, 11, 12, 14, 16, 17, 20, 21, 22, 25, 26, 27, 28, 30, 32, 33, 36, 38, 40, 43, 44, 45, 46, 49, 51, 54, 55, 58, 59, 61, 62, 63, 66, 68, 69, 72, 73, 75, 76, 79, 80, 83, 85, 87, 90, 91, 92, 93, 94, 95, 97, 98, 100, 103, 105]
def pc_85 : List Nat := [0, 1, 2, 3, 4, 5, 8, 9, 10, 11, 12, 15, 16, 17, 18, 19, 22, 23, 24, 25, 28, 30, 32, 33, 36, 37, 38, 40, 42, 45, 46, 47, 48, 49, 50, 53, 54, 55, 56, 57, 60, 61, 62, 65, 68, 71, 72]
def pc_86 : List Nat := [0, 1, 2, 5, 6, 7, 10, 11, 12, 15, 16, 17, 20, 21, 22, 25, 28, 29, 30, 31, 34, 37, 38, 41, 42, 43, 46]
def pc_87 : List Nat := [0, 1, 4, 5, 8, 11, 12, 15, 16, 19, 22, 23, 26, 27, 30, 33, 34, 37, 38, 41, 44, 45, 48, 49, 52, 55, 56, 59, 60, 63, 66, 67, 68, 71, 74, 75, 76, 79, 82]
def pc_88 : List Nat := [0, 1, 4, 5, 8, 9, 12, 15, 16, 19, 20, 21, 22, 23, 26, 27, 30, 31, 34, 37, 40, 41, 44, 45, 48]
def pc_89 : List Nat := [0, 1, 4, 5, 8, 9, 12, 15, 16, 17, 20, 21, 24, 25, 28, 29, 32, 33, 36, 37, 40, 43, 44]
def pc_90 : List Nat := [0, 1, 2, 3, 6, 9, 10, 11, 12, 13, 14, 15, 18, 21]
def pc_91 : List Nat := [0, 1, 3, 6, 7, 10, 11, 13, 16, 17, 20, 21, 23, 26, 27, 30, 31, 33, 36, 37, 40, 41]
def pc_92 : List Nat := [0, 1, 4, 7, 8, 9, 12, 13, 14, 17, 20, 21, 22, 23, 26, 27, 28, 31, 32, 35, 36, 39]
def pc_93 : List Nat := [0, 1, 4, 5, 8, 9, 10, 13, 14, 15, 18, 21, 22, 23, 26, 29]
def pc_94 : List Nat := [0, 1, 4, 5, 6, 9, 10, 11, 12, 13, 16, 17, 20, 23, 24, 27, 28, 31, 32, 34, 36, 39, 42, 43, 45, 48, 49, 52, 54, 55, 56, 57, 60, 61, 64, 65, 66, 68, 69, 70, 71, 72, 75, 76, 77, 80, 83, 84, 85, 87, 90, 93, 94, 95, 98, 99]
def pc_95 : List Nat := [0, 1, 4, 6, 7, 8, 9, 10, 11, 14, 17, 18, 19, 22, 25, 26, 27, 28, 29, 32, 33, 34, 37, 38]
def pc_96 : List Nat := [0, 1, 4, 7, 8, 11, 12, 15, 16, 17, 18, 19, 22, 23, 24, 27, 28, 29, 32]
def pc_97 : List Nat := [0, 1, 4, 5, 6, 9, 10, 11, 14, 15, 16, 19, 20, 21, 22, 23, 24, 25, 28, 29, 30, 31, 32, 33, 34, 37, 38, 39, 40, 41, 43, 44, 47, 48, 49, 52, 53, 54, 55, 56, 58, 59, 62, 63, 64, 67, 70, 71, 74, 76, 79, 80, 83, 84, 85, 86, 87, 90, 91, 94, 95, 98, 99, 100, 103, 104, 107, 108, 109, 110, 111, 114, 115, 118, 119, 120, 121, 124, 127, 128, 131, 133, 136, 137, 140, 141, 143, 144, 146, 147, 150, 151, 152, 153, 154, 157, 159, 160, 163, 164, 165, 166, 168, 171, 173, 176, 177, 178, 179, 182, 183, 184, 185, 186, 187, 188]
def pc_98 : List Nat := [0, 1, 4, 5, 8, 11, 12, 15, 16, 17, 18, 21, 22, 25, 27, 30, 31, 32, 35, 36, 37, 40, 41, 44, 47, 48, 50, 53, 54, 57, 60, 61, 64, 65, 68, 71, 72, 75, 76, 77, 79, 82, 83, 86, 88, 91, 92, 93, 96, 97, 98, 101, 102, 105, 108, 109, 112, 115, 116, 117, 120, 123]
def pc_99 : List Nat := [0, 1, 4, 5, 8, 11, 12, 15, 16, 17, 18, 19, 22, 23, 24, 25, 26, 29, 30, 31, 32, 33, 34, 37, 38, 39, 42, 43, 46, 47, 48, 51, 52, 55, 58, 60, 61, 64, 65, 66, 67, 70, 71, 74, 77, 78, 81, 82, 83]
def pc_100 : List Nat := [0, 1, 4, 5, 6, 9, 12, 13, 15, 18, 19, 22, 23, 24, 27, 28]
def pc_101 : List Nat := [0, 1, 2, 5, 8, 11, 14, 17, 18, 21, 24, 25, 28, 31, 32]
def pc_102 : List Nat := [0, 1, 2, 3, 6, 7, 8, 9, 10, 13, 16, 17, 20, 22, 23, 24, 25, 28, 29]
def pc_103 : List Nat := [0, 1, 2, 3, 4, 5, 6, 9, 12, 15, 16, 19, 22, 23, 24, 26, 29, 30, 31, 32, 33, 34, 35, 38, 41, 42]
def pc_104 : List Nat := [0, 1, 2, 3, 4, 5, 6, 9, 12, 13, 14, 17, 18, 21, 24, 27, 30, 31]
def pc_105 : List Nat := [0, 1, 44, 45, 48, 51, 54, 55, 56, 59, 62, 65, 66, 67, 70, 73, 76, 77, 78, 81, 84, 87, 88, 89, 92, 95, 98, 99, 100, 103, 106, 109, 110, 111, 114, 117, 118, 121, 124, 127, 130, 131, 132]
def pc_106 : List Nat := [0, 1, 2, 3, 4, 5, 6, 9, 10, 11, 14, 15, 16, 19, 20, 23, 24, 25, 26, 28, 31, 32, 35, 36, 37, 38, 41, 44, 45]
def pc_107 : List Nat := [0, 1, 2, 3, 6, 7, 8, 9, 10, 11, 14, 15, 16, 19, 20, 21, 24, 26, 27, 28, 29, 30, 33, 34, 37, 38, 39, 40, 43, 46, 47]
def pc_108 : List Nat := [0, 1, 2, 4, 7, 10, 11, 12, 13, 14, 17, 18, 21, 22, 23, 26, 27, 28, 31, 32, 35, 38, 39, 40, 43, 44, 47, 48, 49, 52, 53, 56]
def pc_109 : List Nat := [0, 1, 2, 5, 8, 9, 12, 15, 16, 19]
def pc_110 : List Nat := [0, 1, 4, 5, 8, 11, 12, 15, 16, 19, 22, 23, 26, 27, 30, 33, 34, 37, 38, 41, 44, 45, 46, 49, 52, 53, 54, 57, 60]
def pc_111 : List Nat := [0, 1, 4, 5, 8, 9, 10, 13, 14, 15, 18, 19, 20, 22, 23, 26, 27, 28, 31, 32, 33, 35, 38, 41]
def pc_112 : List Nat := [0, 1, 2, 5, 7, 8, 11, 12, 14, 15, 18, 19, 22, 24, 25, 27, 28]
def pc_113 : List Nat := [0, 1, 2, 5, 32, 33, 34, 35, 36, 37, 38, 39]
def pc_114 : List Nat := [0, 1, 4, 7, 8, 9, 12, 13, 16, 17, 20, 21, 24, 27, 28, 31, 32, 35, 36, 37, 40, 41, 44, 45, 46, 49, 50, 51, 54, 57]
def pc_115 : List Nat := [0, 1, 2, 5, 6, 7, 8, 9, 10, 11, 14, 15, 18, 19, 22, 25, 26, 27, 28, 31, 32, 33, 36, 39, 40, 41, 44, 47, 48]
def pc_116 : List Nat := [0, 1, 2, 3, 4]
def pc_117 : List Nat := [0, 1, 2, 5, 6, 9, 12, 13, 14, 17, 20, 23, 24, 27, 30, 31]
def pc_118 : List Nat := [0, 1, 4, 7, 8, 9, 10, 11, 14, 15, 16, 17, 20, 22, 24, 27, 28, 29, 30, 31, 34, 35, 37, 38, 39, 42, 43, 45, 48, 50, 52, 55, 56, 57, 58, 61, 63, 64, 65, 66, 69, 71]
def pc_119 : List Nat := [0, 1, 4, 5, 8, 11, 12, 15, 16, 19, 22, 25, 26, 27, 28, 31, 32, 35, 38, 41, 42, 45, 46, 49, 52, 53, 56, 57, 58, 60, 61, 63, 65, 66, 69, 72, 75, 76, 77, 79, 80, 82, 85, 88, 90, 91, 92, 95, 96, 97, 100, 101, 103, 104, 107, 110, 112, 113, 116, 117, 118, 121, 124, 126, 127, 130, 131, 132, 135, 138, 140, 141, 144, 145, 148, 151, 152, 154, 156, 157, 160, 163, 166, 168, 170, 173, 176, 177, 180, 183, 185, 187, 188, 191, 194, 195, 196, 199, 202, 203, 206, 207, 210, 211, 212, 215, 217]
def pc_120 : List Nat := [0, 1, 4, 7, 10, 12, 13, 14, 17, 18, 21, 24]
def pc_121 : List Nat := [0, 1, 4, 5, 6, 8, 11, 13, 14, 15, 18, 21, 22, 25, 26, 27, 30, 31, 33, 34, 35, 36, 39, 42, 43, 46, 47, 48, 49, 50, 51, 52, 54, 56, 57, 60, 61, 62, 63, 64, 65, 66, 69, 70, 71, 74, 75, 76, 77, 78, 81, 82, 83, 84, 85, 88, 89, 90, 91, 92, 93, 94, 95, 98, 99, 102, 103, 104, 105, 106, 107, 108, 109, 110, 113, 114, 117, 118, 119, 120, 121, 122, 125, 126, 127, 128, 129, 130, 131, 132, 133, 136, 137, 140, 141, 142, 143, 144, 145, 148, 149, 150, 151, 152, 153, 154, 155, 156, 159, 160, 163, 164, 165, 166, 167, 170, 173, 174, 175, 176, 178, 181, 182, 185, 186, 188, 189, 190, 191, 192, 195, 196, 199, 200, 201, 202, 203, 206, 209, 210, 213, 214, 215, 216, 217, 218, 219]
def pc_122 : List Nat := [0, 1, 2, 5, 6, 9, 10]
def pc_123 : List Nat := [0, 1, 4, 5, 6, 7, 8, 9, 12, 13, 14, 15, 16, 17, 18, 19, 20, 23, 24, 27, 28, 29, 30, 31, 32, 35, 36, 37, 38, 39, 40, 41, 42, 45, 46, 49, 50, 51, 52, 53, 56, 57, 58, 61, 62]
def pc_124 : List Nat := [0, 1, 2, 3, 4, 7, 8, 9, 12, 13, 14, 15, 16, 19, 22, 23, 26, 27, 29, 31, 34, 35, 36, 37, 38, 41, 42, 43, 44, 47, 50, 51, 52, 55, 58, 59]
def pc_125 : List Nat := [0, 1, 2, 5, 6, 7, 8, 11, 12, 13, 14, 15, 16, 17, 18, 21, 22, 23, 24, 26, 28, 29, 32, 35, 37, 38, 41, 44, 46, 47, 50, 53, 54, 57, 58]
def pc_126 : List Nat := [0, 1, 3, 4, 5, 6, 7, 8, 9, 10, 11, 14, 15, 18, 19, 20, 23, 24, 27, 28, 29, 32, 33, 36, 37, 39, 40, 41, 44, 45, 46, 49, 50, 52, 53, 55, 57, 58, 59, 60, 63, 64, 66, 69, 72, 73, 75, 76, 79, 80, 81, 84, 85, 88, 89, 91, 93, 96, 98, 100, 103, 104, 105, 108, 109, 111, 114, 115, 116, 117, 118, 119, 121, 122, 123, 124, 125, 127, 129, 132, 134, 135, 137, 138, 141, 144, 146, 149, 150, 153, 156, 158, 160, 161, 163, 164, 166, 168, 169, 170, 171, 174, 175, 177, 180, 181, 182, 184, 186, 189, 192, 194, 195, 196, 197, 198, 201, 202, 204, 207, 208, 209, 210, 211, 214, 217, 220, 223, 224, 225, 226, 227, 228, 229, 230, 232]
def pc_127 : List Nat := [0, 1, 4, 5, 6, 7, 10, 11, 12, 15, 17, 18, 19, 22, 23, 24, 25, 28, 30, 31, 34, 35, 36, 37, 38, 39, 42, 43, 46, 47, 48, 51, 52, 53, 54, 57, 58, 61, 62, 65, 66, 67, 68, 69, 72, 73, 74, 76, 77, 79, 80, 81, 82, 83, 86, 87, 88, 91, 92, 95]
def pc_128 : List Nat := [0, 1, 4, 7, 8, 9, 10, 13, 15, 16, 17, 18, 20, 21, 24, 25, 26, 29, 30, 31, 34, 35, 36, 39, 40, 43, 44, 47]
def pc_129 : List Nat := [0, 1, 4, 7, 10, 13, 15, 16, 17, 20, 23, 24, 27, 30, 33, 34, 37, 40, 43]
def pc_130 : List Nat := [0, 1, 4, 5, 6, 9, 11, 12, 13, 16, 17, 18, 19, 20, 21, 22, 24, 26, 27, 30, 31, 32, 33, 34, 35, 36, 39, 40, 41, 44, 45, 46, 47, 48, 51, 52, 53, 56, 57, 58, 59, 60, 61, 62, 63, 64, 65, 68, 69, 72, 73, 76, 77, 78, 79, 82, 83, 84, 85, 86, 87, 88, 89, 90, 91, 92, 95, 96, 99, 100, 101, 102, 105, 106, 107, 108, 109, 110, 111, 112, 113, 114, 115, 118, 119, 122, 123, 124, 125, 128, 129, 130, 131, 132, 133, 134, 135, 136, 137, 140, 143, 144, 145, 146, 148, 151, 152, 155, 156, 159, 160, 161, 162, 165, 166, 168, 169, 170, 171, 172, 173, 176, 179, 180, 183, 184, 185]
def pc_131 : List Nat := [0, 1, 4, 7, 10, 11, 12, 15, 18, 19, 22, 23]
def pc_132 : List Nat := [0, 1, 4, 5, 6, 7, 8, 11, 12, 13, 14, 15]
def pc_133 : List Nat := [0, 1, 4, 5, 6, 7, 10, 13, 16, 17, 18, 21, 24, 25, 28, 29]
def pc_134 : List Nat := [0, 1, 4, 5, 6, 7, 10, 11, 12, 13, 14, 17, 18, 19, 20, 21]
def pc_135 : List Nat := [0, 1, 4, 7, 9, 10, 11, 13, 15, 16, 19, 22, 23, 25, 28, 30, 31, 33, 36, 37, 39, 40, 42, 43, 46, 49, 52, 54, 55, 58, 61, 63]
def pc_136 : List Nat := [0, 2, 3, 4, 6, 8, 9, 12, 15, 18, 21, 22, 25, 26, 29, 31, 32, 35, 37, 40, 43, 45, 46, 49, 50, 53, 54, 57, 58, 59, 62, 63, 66, 69, 70, 73, 76, 79, 80, 83, 86, 87, 90, 93, 94]
def pc_137 : List Nat := [0, 1, 3, 6, 8, 11, 12]
def pc_138 : List Nat := [0, 1, 3, 6, 9, 10, 11, 12, 15, 16, 18, 21, 24]
def pc_139 : List Nat := [0, 1, 4, 5, 6, 7, 10, 11, 12, 15, 16, 17, 20, 21, 24, 25, 26, 29, 32, 33, 36, 37, 38, 39, 40, 41, 42, 45, 46, 47]
def pc_140 : List Nat := [0, 1, 2, 5, 6, 7, 10, 12, 15, 16]
def pc_141 : List Nat := [0, 1, 2, 4, 7, 10, 11, 12, 13, 16, 17, 20, 23, 24, 25, 26, 29, 32]
def pc_142 : List Nat := [0, 1, 2, 3, 5, 8, 9, 10, 11, 14, 17, 18, 19, 22, 25, 27]
def pc_143 : List Nat := [0, 1, 4, 7, 8, 9, 12, 13, 16, 17, 18, 21, 22, 25, 28, 29, 32, 35, 38, 39, 40, 41, 44, 47, 48, 49, 52, 54, 55, 58, 60, 63, 65, 66, 69, 70, 73, 74, 75, 78, 79, 80, 81, 84, 87, 90, 91, 94, 95, 98, 100, 101, 102, 103, 106, 109, 112, 113, 116, 117, 118, 119, 122, 125]
def pc_144 : List Nat := [0, 1, 4, 7, 8, 9, 10, 11, 13, 16, 17, 20, 21, 22, 23, 26, 27, 30, 32, 35, 36, 37, 40, 43, 44, 45, 46, 47, 50, 53, 56, 59, 60, 61, 64, 67, 70, 71, 72, 73, 76, 79, 82, 83, 84, 85, 88, 91, 92, 93, 96, 97, 98, 99, 100, 103, 106, 107]
def pc_145 : List Nat := [0, 1, 2, 5, 8, 9, 10, 11, 14, 17, 18, 21, 24, 27, 30, 31, 32, 33, 36, 38, 39, 40, 43, 46, 47, 48, 49, 50, 51, 52, 54, 56, 57, 60, 61, 62, 63, 66, 67, 68, 69, 70, 72, 73, 74, 76, 79, 80, 83, 84, 87, 89]
def pc_146 : List Nat := [0, 1, 4, 5, 8, 11, 12, 13, 14, 17, 18, 19, 20, 23, 24, 25, 28, 29, 32, 34, 35, 38, 39, 40, 41, 42, 43, 46, 47, 50, 51, 52, 53, 54, 57, 58, 60, 61, 64, 65, 66, 69, 70, 72, 73, 76, 77, 78, 79, 82, 85, 86, 87, 90, 91]
def pc_147 : List Nat := [0, 1, 2, 3, 6, 9, 10, 11, 12, 15, 16, 17, 18, 21, 23, 24, 25, 26, 27, 28, 29, 30, 31, 33, 34, 36, 38, 39, 42, 44, 45, 47, 50, 53, 54, 57, 58, 59, 61, 64, 67, 69, 71, 72, 74, 76, 79, 81, 83, 84, 86, 88, 90, 92, 94, 97, 98, 101, 103, 106, 107, 109, 110]
def pc_148 : List Nat := [0, 1, 2, 3, 4, 7, 10, 13, 14, 17, 20, 21, 22, 25, 28, 29, 30, 33, 36, 37]
def pc_149 : List Nat := [0, 1, 2, 5, 8, 9, 10, 11, 12, 15, 16, 17, 18]
def pc_150 : List Nat := [0, 1, 4, 7, 8, 9, 10, 13, 14, 15, 16, 18, 21, 22, 25, 27, 30, 31, 32, 35, 38, 39, 42, 43, 46, 47, 48, 49, 50, 53, 54, 55, 58, 61, 64]
def pc_151 : List Nat := [0, 1, 4, 5, 8, 9, 10, 13, 14, 17, 18, 21, 24, 25, 28, 31, 34, 35, 38]
def pc_152 : List Nat := [0, 1, 2, 3, 4, 5, 8, 9, 12, 13, 14, 15, 16, 17, 18, 21, 24, 25, 26, 29, 32, 33, 34, 35, 38, 39, 40, 41, 42, 43, 46, 49, 50, 51, 52, 53, 56, 59, 62, 65, 66, 69, 70, 72, 73, 74, 75, 76, 77, 78, 80, 83, 84, 87, 90, 93, 96]
def pc_153 : List Nat := [0, 2, 3, 4, 5, 6, 7, 10, 13, 16, 19, 20, 21, 22, 24, 26, 27, 30, 33, 34, 37, 39, 40, 41, 44, 45, 46, 48, 49, 50, 51, 54, 57, 58, 59, 62, 63, 65, 66, 67, 68, 69, 72, 73, 76, 79, 80]
def pc_154 : List Nat := [0, 1, 4, 5, 6, 7, 8, 11, 12, 15, 16, 17, 18, 19, 20, 21, 22, 25, 26, 27, 28, 31, 32, 33, 36, 37, 38, 39, 42, 45]
def pc_155 : List Nat := [0, 1, 4, 5, 8, 9, 12, 15, 18, 19, 20, 21, 22, 23, 24, 25, 28, 31, 32, 33, 34, 35, 38, 41, 42, 45, 46, 49, 50, 51, 54, 55, 56, 57, 58, 61, 62, 65, 67, 69, 70, 73, 76, 77, 79, 82, 83, 86, 87, 90, 93, 94, 95, 98, 101, 104]
def pc_156 : List Nat := [0, 1, 2, 3, 4, 7, 10, 11, 14, 15, 16, 17, 20, 21, 24, 25, 26, 27, 30, 33, 35]
def pc_157 : List Nat := [0, 1, 2, 5, 6, 9, 12, 13, 16, 19, 20, 21, 22, 25, 28, 31, 34, 35, 38, 41, 44, 45, 46, 47, 50, 53, 56, 58, 61, 63, 64, 65, 68, 71, 72, 73, 76, 77, 80, 83, 86, 89, 90, 93, 94, 97]
def pc_158 : List Nat := [0, 1, 2, 3, 4, 5, 7, 10, 11, 12, 13, 14, 15, 16, 17, 18, 21, 24, 25]
def pc_159 : List Nat := [0, 1, 2, 3, 5, 7, 8, 11, 12, 13, 14, 15, 18, 21, 22]
def pc_160 : List Nat := [0, 1, 4, 5, 8, 11, 12, 13, 14, 17, 18, 19, 20, 21, 23, 25, 28, 29, 31, 34, 37, 38, 41, 43, 46, 47, 48, 49, 50, 53, 54, 55, 56, 57, 58, 59, 62, 63, 64, 65, 66, 69, 72]
def pc_161 : List Nat := [0, 1, 4, 5, 6, 9, 10, 13, 14, 15, 16, 17, 18, 19, 22, 23, 24, 27, 28, 31, 32, 33, 36, 39, 40, 43, 44, 45, 48, 51, 52, 55, 56, 57, 60, 61, 62, 65, 68, 69, 70, 71, 72, 73, 75, 77, 78, 81, 82, 83, 86, 87, 88, 91, 93, 96, 97, 98, 99, 101, 104, 105, 107, 108, 111, 112, 113, 114, 117, 120, 121, 124, 126, 129, 131, 132, 133, 135, 136, 138, 139, 141, 143, 144, 145, 148, 149, 150, 151, 154, 157, 160, 161, 163, 164, 167, 168, 170, 173, 175, 177, 179, 182, 184, 187, 189, 191, 193, 195, 198, 200, 203, 205, 207, 210, 213, 214, 215, 218, 219, 221, 224, 225, 226, 228, 229, 232, 233, 234, 237, 240, 241, 244, 245, 248, 249, 250, 251, 254, 256]
def pc_162 : List Nat := [0, 2, 3, 4, 6, 8, 11, 12, 13, 14, 15, 16, 19, 22, 25, 28, 29, 32, 35, 38, 39, 40, 43, 46, 47, 49, 50, 53, 55, 57, 58, 61, 63, 64, 65, 66, 69, 72, 73]
def pc_163 : List Nat := [0, 1, 4, 7]
def pc_164 : List Nat := [0, 1, 4, 5, 8, 11, 12, 14, 17, 18, 20, 21, 22, 23, 24, 25, 28, 29, 30, 33, 34, 37, 38, 41, 42, 43, 44, 47, 48, 51, 52, 55, 58, 59, 62, 63, 66, 67, 68, 69, 70, 71, 73, 76, 78, 80, 81, 84, 85, 88, 89, 90, 92, 93, 96, 98, 101, 102, 103, 106, 109, 110]
def pc_165 : List Nat := [0, 1, 4, 7, 10, 11, 14, 15, 18, 21, 24, 25, 28, 29, 30, 31, 34, 35, 38, 39, 42, 43, 44, 45, 48, 49, 52, 53, 55, 57, 60, 62, 65, 66, 69, 70, 73, 74, 75, 78, 79, 82, 83]
def pc_166 : List Nat := [0, 1, 4, 5, 8, 9, 10, 11, 12, 14, 16, 19, 22, 24, 25, 26, 27, 28, 31, 32, 34, 35, 38, 41, 44, 45, 46, 47, 49, 50, 51, 52, 54, 57, 59, 62, 64, 65, 68, 71, 72]
def pc_167 : List Nat := [0, 1, 2, 3, 4, 5, 6, 9, 12, 15, 18, 19, 20, 21, 24, 25, 26, 29, 32, 33]
def pc_168 : List Nat := [0, 1, 2, 5, 8, 9, 10, 11, 14, 17, 18, 19, 22, 23, 26, 27, 30, 33, 36, 37, 40]
def pc_169 : List Nat := [0, 1, 2, 3, 4, 5, 6, 9, 10, 11, 14, 15, 16, 17, 20, 23, 24, 27, 28, 31, 32, 33, 34, 37, 38, 39, 40, 43, 46, 47]
def pc_170 : List Nat := [0, 1, 4, 5, 8, 11, 12, 13, 14, 15, 18, 19, 20, 23, 24, 27, 28, 31, 32, 33, 34, 35, 38, 41, 42, 45, 46, 49, 50, 53, 54, 55, 56, 57, 60, 63, 64, 66, 69, 70, 73, 74, 75, 78, 79, 82, 83]
def pc_171 : List Nat := [0, 1, 2, 3, 6, 9, 10, 11, 12, 13, 14, 15, 16, 17, 20, 21, 22, 25, 26, 27, 30, 31, 34, 35, 36, 39, 42, 43, 44, 45, 47, 49, 50, 53, 54, 55, 58, 59, 61, 64, 65, 67, 69, 72, 74, 77, 79, 82, 83, 86, 89, 91, 94, 96, 99, 100, 103, 106, 108, 109, 112, 113, 116, 117, 119, 121, 122, 123, 124, 125, 128, 130, 133, 134, 136, 139, 142, 144, 147, 148, 149, 152, 155, 156, 159, 160, 163, 164, 165, 168]
def pc_172 : List Nat := [0, 1, 4, 5, 8, 11, 12, 15, 18, 19, 20, 21, 24, 25, 28, 31, 32, 33, 35, 38, 39, 42, 43]
def pc_173 : List Nat := [0, 1, 2, 5, 6, 7, 8, 11, 12, 13, 16, 17, 18, 19, 20, 23, 24, 27, 28, 29, 30, 32, 34, 36, 39, 40, 41, 42, 44, 45, 46, 47, 48, 51, 52, 55, 58, 61, 63]
def pc_174 : List Nat := [0, 1, 2, 5, 8, 9, 12, 13, 16, 19, 20, 21, 23, 24, 27, 30, 31]
def pc_175 : List Nat := [0, 1, 4, 7, 8, 11, 14, 15, 16, 17, 20, 21, 24, 27, 29, 30, 31, 34, 35, 38]
def pc_176 : List Nat := [0, 1, 4, 5, 8, 9, 10, 11, 12, 15, 16, 19, 20, 23, 24, 25, 26, 28, 31, 32, 35, 36]
def pc_177 : List Nat := [0, 1, 4, 5, 8, 9, 10, 11, 13, 14, 15, 16, 17, 18, 21, 22, 23, 24, 25, 28, 31, 32, 35, 37, 38, 39, 40, 43, 44, 45, 46, 47, 50, 51, 54, 55, 56, 59, 60, 63, 64, 66, 67, 69, 71, 74, 75, 77, 78, 79, 80, 83, 84, 85, 86, 87, 90, 93, 94, 97, 99, 100, 101, 103, 104, 105, 106, 109, 110, 112, 113, 114, 117, 120, 122]
def pc_178 : List Nat := [0, 1, 2, 5, 8, 9, 10, 11, 12, 15, 18, 19, 20, 23, 26, 28]
def pc_179 : List Nat := [0, 1, 2, 3, 4, 5, 6, 9, 12, 15, 16, 17, 20, 23, 24, 25, 26, 27, 28, 29, 32, 35, 36]
def pc_180 : List Nat := [0, 1, 4, 7, 8, 9, 10, 13, 14, 15, 16, 18, 21, 22, 25, 27, 30, 31, 32, 35, 38, 39, 42, 43, 46, 47, 48, 49, 52, 53, 56, 57, 60, 61, 64, 65, 66, 67, 70, 71, 72, 75, 78, 81]
def pc_181 : List Nat := [0, 1, 4, 5, 6, 9, 10, 11, 12, 13, 14, 16, 18, 19, 22, 25, 27, 28, 31, 32, 34, 37, 40, 41, 42, 43, 46, 48, 49, 50, 51, 52, 53, 54, 57, 60, 61, 62, 63, 66, 67, 68, 69, 70, 71, 74, 75, 78, 79]
def pc_182 : List Nat := [0, 1, 4, 5, 6, 7, 8, 9, 10, 11, 12, 13, 14, 17, 20, 21, 22, 25, 28, 31, 32, 35, 36, 37, 38, 39, 42, 43]
def pc_183 : List Nat := [0, 1, 4, 5, 6, 9, 10, 11, 12, 13, 14, 17, 18, 19, 20, 21, 22, 23, 24, 25, 28, 29, 30, 31, 33, 35, 36, 39, 42, 43, 45, 48, 51, 52, 53, 54, 56, 59, 62, 63, 66, 69, 70, 73, 74, 75, 76, 79, 82]
def pc_184 : List Nat := [0, 1, 2, 3, 4, 7, 10, 11, 12, 15, 18, 19, 20, 21, 24, 25, 28, 29, 30, 33, 34, 35, 38, 41, 42]
def pc_185 : List Nat := [0, 1, 4, 5, 6, 9, 12, 14, 15, 16, 17, 18, 19, 20, 21, 24, 25, 26, 27, 28, 31, 32, 33, 34, 37, 40, 41, 44, 45, 46, 49, 50]
def pc_186 : List Nat := [0, 1, 2, 5, 6, 8, 11, 12, 13, 14, 17, 20, 23, 25, 28, 30, 31, 32, 35, 38, 39, 40, 43, 44, 47, 50, 51, 52, 55, 56, 59, 60, 63]
def pc_187 : List Nat := [0, 1, 2, 3, 5, 6, 7, 8, 10, 12, 15, 16, 19, 21, 22, 23, 24, 25, 27, 28, 29, 32, 34, 35, 36, 37, 39, 40, 41, 42, 43, 46, 49, 51, 54, 55, 58, 59, 62, 63]
def pc_188 : List Nat := [0, 1, 2, 3, 4, 5, 7, 9, 10, 13, 14, 17, 18, 21, 23, 24, 25, 27, 28, 30, 33, 35, 36, 37, 39, 40, 41, 42, 43, 44, 45, 47, 50, 51, 52, 54, 55, 56, 57, 60, 61, 64, 66, 69, 70, 71, 72, 75, 76, 77, 78, 81, 84, 85]
def pc_189 : List Nat := [0, 1, 2, 4, 7, 10, 11, 12, 13, 14, 15, 16, 17, 18, 21, 22, 23, 26, 27, 28, 31, 34, 35, 37, 40, 42, 43, 44, 47, 48, 49, 50, 53, 56, 59, 60, 61, 62, 64, 66, 67, 68, 69, 72, 75, 76, 78, 79, 82, 85, 86, 87, 90, 93, 94, 96, 97, 99, 101, 102, 105, 107, 108, 111, 112, 115, 117, 118, 121, 122, 125, 127, 128, 129, 130, 133, 136, 138, 139, 142, 144, 147, 148, 149, 152, 155, 156, 157, 160, 161, 164, 165, 166, 169, 170, 173, 174, 175, 178, 180]
def pc_190 : List Nat := [0, 1, 3, 4, 6, 7, 9, 10, 12, 13, 16, 19, 22, 24, 26, 27, 30, 33, 36, 39, 41, 42, 45, 47, 50, 51, 54, 55, 57, 58, 60, 62, 64, 67, 68, 71, 72, 73, 75, 77, 79, 82, 83, 86, 87, 88, 90, 93, 96, 99, 101, 103, 106]
def pc_191 : List Nat := [0, 1, 4, 7, 8, 11, 14, 15, 18, 21, 22, 25, 28, 29, 30, 31, 32, 35, 36, 37, 40, 43, 44, 45, 46, 49, 52, 55, 56, 59, 60, 63, 66, 68, 69, 72, 75, 78, 79, 82, 83, 86, 89, 91, 92, 94, 95, 97, 99, 100, 103, 105, 106, 108, 110, 112, 115, 116, 118, 120, 122, 125, 127, 129, 131, 134, 136, 138, 140, 142, 145, 148, 149, 152, 154, 157, 159]
def pc_192 : List Nat := [0, 1, 3, 4, 6, 7, 9, 11, 12, 15, 16, 17, 18, 21, 22, 23, 24, 27, 29, 30, 31, 32, 33, 34, 37, 38, 41, 42, 44, 46, 47, 50, 52, 55, 56, 59, 60, 61, 64, 65, 67, 69, 70, 73, 75, 78, 79, 82, 83, 84, 87, 88, 90, 93, 96, 98, 100, 103, 105, 108, 110]
def pc_193 : List Nat := [0, 1, 2, 5, 8, 9, 10, 13, 16, 17, 18, 21, 22, 23, 24, 27, 30, 31, 32, 33, 35, 36, 38, 40, 42, 45, 46, 47, 48, 50, 53, 54, 55, 56, 58, 61, 64, 66, 69, 71, 73, 76, 79, 80, 83, 85, 88, 89, 90, 91, 93, 96]
def pc_194 : List Nat := [0, 1, 4, 7, 8, 9, 12, 13, 16, 17, 18, 21, 22, 25, 28, 29, 32, 35, 38, 40, 42, 43, 46, 49, 50, 53, 55, 56, 57, 58, 61, 62, 65, 68, 69, 71, 74, 75, 77, 78, 81, 84, 85, 86, 89, 92]
def pc_195 : List Nat := [0, 1, 4, 5, 8, 9, 10, 11, 14, 15, 17, 19, 21, 24, 25, 28, 30, 31, 34, 35, 38, 40, 41, 42, 45, 47, 50, 52, 53, 56, 59, 61]
def pc_196 : List Nat := [0, 1, 4, 7, 8, 11, 14, 15, 16, 19, 22, 23, 24, 25, 26, 29, 30, 31, 32, 35, 38, 41, 42, 45, 46, 47, 48, 50, 52, 54, 55, 57, 59, 61, 64, 65, 68, 69, 71, 72, 75, 77, 79, 81, 84, 87, 89, 91, 94, 96, 99, 102, 103, 106, 108, 111, 113, 116]
def pc_197 : List Nat := [0, 1, 4, 5, 8, 11, 12, 15, 16, 17, 18, 21, 22, 23, 26, 27, 28, 31, 32, 33, 36, 37, 40, 41, 42, 45, 48, 49, 52, 53, 56, 57, 60, 61, 62, 63, 64, 67, 68, 69, 70]
def pc_198 : List Nat := [0, 1, 2, 5, 8, 9, 10, 11, 12, 15, 16, 17, 18, 19, 20, 23, 26, 27, 28, 29, 32, 35, 36, 37, 38, 40, 41, 43, 44, 46, 48, 50, 53, 54, 55, 56, 58, 61, 63, 65, 68, 70, 73, 75, 77, 80, 82, 85, 87, 89, 91, 93, 96, 97, 100, 101, 102, 104, 107, 110, 111, 114, 116, 119, 121, 124, 126, 129, 131]
def pc_199 : List Nat := [0, 1, 2, 3, 5, 8, 9, 12, 13, 14, 15, 18, 19, 20, 23, 26, 29, 30, 31, 34, 37, 38, 39, 42, 45]
def pc_200 : List Nat := [0, 1, 4, 5, 8, 11, 12, 15, 16, 19, 22, 23, 26, 27, 30, 33, 34, 37, 38, 41, 44]
def pc_201 : List Nat := [0, 1, 4, 5, 8, 11, 12, 13, 16, 17]
def pc_202 : List Nat := [0, 1, 4, 5, 8, 11, 12, 13, 16, 17]
def pc_203 : List Nat := [0, 1, 4, 7, 9, 10, 11, 14, 15, 18, 21, 22]
def pc_204 : List Nat := [0, 1, 4, 7, 9, 10, 11, 14, 15, 18, 21, 22]
def pc_205 : List Nat := [0, 1, 2, 5, 8, 9, 10, 13, 16, 17, 20, 21]
def pc_206 : List Nat := [0, 1, 4, 5, 8, 9, 10, 13, 16, 17, 18, 21, 22, 23, 26, 27, 30, 31]
def pc_207 : List Nat := [0, 1, 4, 7, 9, 10, 11, 12, 15, 18, 20, 21, 22, 23, 24, 27, 30, 31, 34, 36]
def pc_208 : List Nat := [0, 1, 3, 6, 9, 10, 13, 14, 15, 18, 19]
def pc_209 : List Nat := [0, 1, 4, 5, 8, 9, 10, 13, 14, 17, 20, 21, 24, 25, 28, 29, 31, 33, 35, 38, 39, 42, 43, 46, 49, 50, 53, 56, 59, 61, 62, 65, 68, 69, 72, 75, 76, 77, 79, 81, 82, 85, 86, 89, 90, 91, 94, 97, 98]
def pc_210 : List Nat := [0, 1, 4, 7, 8, 11, 14, 15, 16, 19, 22, 24, 25, 28, 31, 32, 33, 35, 36, 39, 41, 43, 46, 48, 49, 52, 55, 58, 59, 60, 61, 64, 65, 66, 67, 69, 71, 74, 76, 78, 81, 83, 84, 85, 87, 89, 91, 93, 95, 97, 100, 101, 104, 105, 107, 108, 111, 112, 113, 115, 117, 120, 123, 126, 128, 130, 133, 136, 138, 141, 143, 146, 148]
def pc_211 : List Nat := [0, 1, 2, 3, 6]
def pc_212 : List Nat := [0, 1, 2, 3, 6]
def pc_213 : List Nat := [0, 1, 4, 5, 6, 9, 11, 12, 13, 16, 17, 18, 19, 22, 24, 25, 26, 29, 30, 31, 34, 35, 36, 39, 41, 42, 45, 46, 47, 48, 49, 52, 54, 57, 58]
def pc_214 : List Nat := [0, 1, 4, 5, 8, 11, 12, 15, 16, 19, 20, 21, 22, 23, 24, 26, 27, 29, 31, 33, 36, 37, 40, 41, 44, 47, 48, 51, 52, 53, 56, 58, 59, 62, 63, 64, 65, 67, 68, 69, 72, 74, 77, 78, 81, 82, 84, 85, 86, 87, 90, 91, 94, 95, 96, 99, 100, 103, 104, 106, 109, 112, 114]
def pc_215 : List Nat := [0, 1, 2, 5, 8, 9, 12, 15, 16, 19, 22, 24, 25, 27, 30, 33, 35, 36, 39, 40, 41, 42, 45, 46, 47, 48, 51, 53, 54, 55, 58, 61, 62, 63, 64, 65, 66, 68, 70, 73, 75, 77, 80, 82, 83, 84, 86, 88, 90, 91, 93, 95, 97, 100, 101, 102, 104, 106, 107, 108, 110, 111, 113, 116, 118, 120, 123, 125, 128, 130, 133, 135, 137, 139, 141, 144, 145, 148, 149, 150, 152, 155, 158, 160, 163, 165, 168, 170]
def pc_216 : List Nat := [0, 1, 4, 5, 8, 9, 10, 11, 12, 15, 18, 21, 24, 25, 26, 27, 30, 33, 36]
def pc_217 : List Nat := [0, 1, 4, 32, 33, 34, 35, 36, 37, 38, 39, 40, 41, 42, 43, 44, 45, 46, 47]
def pc_218 : List Nat := [0, 1, 3, 6, 9, 10, 13, 14, 15, 16, 19, 20]
def pc_219 : List Nat := [0, 1, 3, 6, 9, 10, 11, 14, 17, 18, 19, 20, 23, 26, 28, 29, 32, 33, 34, 35, 37, 39, 42, 44, 46, 49, 51, 52, 53, 56, 57, 60, 61, 63, 65, 67, 70, 71, 74, 75, 76, 78, 80, 81, 82, 85, 88, 89, 92, 95, 98, 100, 101, 102, 103, 106, 109, 112, 114]
def pc_220 : List Nat := [0, 1, 4, 6, 9, 10, 11, 14, 16, 19, 20, 21, 24, 26, 29, 30, 31, 32, 33, 34, 35, 36]
def pc_221 : List Nat := [0, 1, 2, 4, 7, 10, 11, 14, 17, 18, 21, 24, 25, 26, 27, 30, 31, 32, 33, 36, 37, 38, 39, 41, 42, 43, 44, 46, 48, 51, 53, 55, 58, 60, 61, 62, 65, 66, 69, 72, 73, 75, 77, 79, 82, 83, 86, 88, 89, 90, 92, 93, 95, 96, 97, 98, 99, 102, 103, 106, 107, 110, 111, 114, 117, 119]
def pc_222 : List Nat := [0, 1, 2, 3, 4, 6, 7, 9, 12, 13, 14, 15, 16, 19, 22]
def pc_223 : List Nat := [0, 1, 2, 5, 6, 7, 10, 11, 12, 14, 17, 20, 21, 24, 25, 28]
def pc_224 : List Nat := [0, 1, 2, 5, 8, 9, 11, 14, 15, 16, 17, 20, 22, 23, 24, 27, 28, 29, 30, 31, 34, 35]
def pc_225 : List Nat := [0, 1, 4, 7, 8, 11, 14, 15, 17, 20, 21, 22, 23, 26, 28, 29, 30, 33, 34, 35, 36, 37, 40, 41, 42, 43, 44, 46, 48, 50, 53, 54, 57, 59, 60, 61, 63, 64, 65, 66, 69, 72, 73]
def pc_226 : List Nat := [0, 1, 2, 5, 8, 9, 10, 11, 14, 15, 16, 19, 22, 24, 25, 26, 29, 30, 31, 32, 35, 36, 39, 40, 41, 44]
def pc_227 : List Nat := [0, 1, 4, 7, 8, 9, 10, 13, 14, 15, 18, 20, 21, 22, 25, 26, 27, 28, 29, 32, 33, 34]
def pc_228 : List Nat := [0, 1, 2, 5, 8, 9, 10, 11, 14, 15, 16, 17, 18, 19, 22, 24, 26, 29, 31, 32, 33, 36, 37, 38, 39, 41, 44, 45]
def pc_229 : List Nat := [0, 1, 4, 7, 8, 11, 14, 15, 16, 17, 18, 19, 20, 21, 24, 26, 28, 31, 33, 34, 35, 38, 40, 41, 42, 43, 44, 45, 47, 50, 51, 52]
def pc_230 : List Nat := [0, 1, 2, 5, 8, 9, 10, 13, 16, 17, 18, 19, 22, 23, 24, 26, 27, 30, 31, 32, 34, 36, 39, 42, 44, 47, 50, 52, 53, 55, 58, 60, 63, 66, 68, 69, 71, 72, 74, 77, 80, 82, 84, 86, 89, 92, 94, 95, 97, 100, 101, 103, 106, 108, 110, 113, 115]
def pc_231 : List Nat := [0, 1, 4, 7, 8, 11, 14, 15, 16, 17, 20, 21, 22, 25, 26, 29, 30, 31, 34, 36, 37, 38, 41, 42, 43, 44, 47, 48, 49, 52, 54, 55, 57, 60, 61, 62, 63, 66, 67, 68, 69, 71, 74, 77, 78, 79, 80, 83, 84, 85, 87, 89, 92, 95, 97, 98, 99, 101, 103, 105, 108, 109, 112, 114, 115, 118, 120, 121, 122, 123, 124, 126, 127, 128, 129, 132, 135, 136, 138, 140, 142, 145, 146, 149, 151, 152, 153, 155, 156, 158, 159, 160, 163, 165, 166, 167, 170, 173, 175]
def pc_232 : List Nat := [0, 3, 4, 7, 8, 11, 12, 15, 16, 17, 18, 19, 20, 21, 23, 24, 27, 28, 29, 30, 32, 33, 188, 189, 190, 191, 192, 193, 194, 197, 198, 199, 200, 201, 202, 203, 206, 209, 210, 211, 212, 213, 214, 215, 216, 217, 218, 219, 220, 221, 222, 223, 224, 225, 226, 227, 228, 229, 230, 231, 232, 233, 234, 235, 236, 237, 240, 241, 242, 243, 244, 245, 246, 247, 248, 249, 250, 251, 252, 253, 254, 255, 256, 257, 258, 259, 260, 261, 262, 263, 264, 265, 266, 269, 272, 273, 274, 275, 276, 277, 278, 279, 280, 281, 282, 283, 284, 285, 288, 289, 290, 291, 292, 293, 294, 295, 296, 297, 298, 299, 302, 305, 306, 307, 308, 309, 310, 311, 312, 313, 316, 317, 318, 319, 320, 321, 322, 325, 328, 329, 330, 331, 332, 333, 334, 335, 336, 337, 338, 339, 340, 341, 344, 345, 346, 347, 348, 349, 350, 351, 352, 353, 354, 355, 358, 361, 362, 363, 364, 365, 366, 367, 368, 369, 370, 371, 372, 373, 374, 377, 378, 379, 380, 381, 382, 383, 384, 385, 386, 387, 388, 391, 394, 395, 396, 397, 398, 399, 400, 401, 402, 403, 404, 405, 406, 407, 408, 409, 410, 411, 412, 415, 416, 417, 418, 419, 420, 421, 422, 423, 424, 425, 426, 427, 428, 429, 430, 431, 434, 437, 438, 439, 440, 441, 442, 443, 444, 445, 446, 447, 448, 449, 450, 453, 454, 455, 456, 457, 458, 459, 460, 461, 462, 463, 464, 467, 470, 471, 472, 473, 474, 475, 476, 477, 478, 479, 480, 481, 482, 483, 484, 485, 486, 487, 488, 491, 492, 493, 494, 495, 496, 497, 498, 499, 500, 501, 502, 503, 504, 505, 506, 507, 510, 513, 514, 515, 516, 517, 518, 519, 520, 521, 524, 525, 526, 527, 528, 529, 530, 533, 536, 537, 538, 539, 542, 543, 546, 549, 550, 551, 552, 555, 556, 559, 562, 563, 564, 565, 566, 567, 568, 569, 570, 573, 574, 575, 576, 577, 578, 579, 582, 585, 586, 587, 588, 589, 590, 591, 592, 593, 596, 597, 598, 599, 600, 601, 602, 605, 608, 609, 610, 611, 614, 615, 618, 621, 622, 623, 624, 627, 628, 631, 634, 635, 636, 637, 640, 641, 644, 647, 648, 649, 650, 651, 652, 653, 654, 655, 658, 659, 660, 661, 662, 663, 664, 667, 670, 671, 672, 673, 674, 675, 676, 677, 678, 681, 682, 683, 684, 685, 686, 687, 690, 693, 694, 695, 696, 697, 698, 699, 700, 701, 704, 705, 706, 707, 708, 709, 710, 713, 716, 717, 718, 719, 720, 721, 722, 723, 724, 727, 728, 729, 730, 731, 732, 733, 736, 739, 740, 741, 742, 745, 746, 749, 752, 753, 754, 755, 756, 757, 758, 759, 760, 763, 764, 765, 766, 767, 768, 769, 772, 775, 776, 777, 778, 779, 780, 781, 782, 783, 786, 787, 788, 789, 790, 791, 792, 795, 798, 799, 800, 801, 802, 803, 804, 805, 806, 809, 810, 811, 812, 813, 814, 815, 818, 821, 822, 823, 824, 825, 826, 827, 828, 829, 830, 831, 832, 833, 834, 835, 836, 837, 838, 839, 842, 843, 844, 845, 846, 847, 848, 849, 850, 851, 852, 853, 854, 855, 856, 857, 858, 861, 864, 865, 866, 867, 868, 869, 870, 871, 872, 873, 874, 875, 876, 877, 878, 879, 880, 881, 882, 885, 886, 887, 888, 889, 890, 891, 892, 893, 894, 895, 896, 897, 898, 899, 900, 901, 904, 907, 908, 909, 910, 913, 914, 917, 920, 921, 922, 923, 926, 927, 930, 933, 934, 935, 936, 937, 938, 939, 940, 941, 942, 943, 944, 945, 946, 947, 948, 949, 950, 951, 952, 953, 954, 955, 956, 957, 958, 959, 960, 961, 962, 963, 965, 966, 967, 970, 971, 972, 973, 974, 975, 976, 977, 978, 979, 980, 981, 982, 983, 984, 985, 986, 987, 988, 989, 990, 991, 992, 993, 994, 995, 996, 997, 998, 1000, 1001, 1002, 1005, 1008, 1009, 1010, 1011, 1012, 1013, 1014, 1015, 1016, 1017, 1018, 1019, 1020, 1021, 1022, 1023, 1024, 1025, 1026, 1027, 1028, 1029, 1030, 1031, 1034, 1035, 1036, 1037, 1038, 1039, 1040, 1041, 1042, 1043, 1044, 1045, 1046, 1047, 1048, 1049, 1050, 1051, 1052, 1053, 1054, 1055, 1058, 1061, 1062, 1063, 1064, 1065, 1066, 1067, 1068, 1069, 1070, 1071, 1072, 1073, 1074, 1075, 1076, 1077, 1078, 1079, 1082, 1083, 1084, 1085, 1086, 1087, 1088, 1089, 1090, 1091, 1092, 1093, 1094, 1095, 1096, 1097, 1098, 1101, 1104, 1105, 1106, 1107, 1108, 1109, 1110, 1111, 1112, 1115, 1116, 1117, 1118, 1119, 1120, 1121, 1124, 1127, 1128, 1129, 1130, 1131, 1132, 1133, 1134, 1135, 1136, 1137, 1138, 1139, 1140, 1141, 1142, 1143, 1144, 1145, 1146, 1147, 1148, 1149, 1150, 1151, 1153, 1154, 1155, 1156, 1157, 1158, 1159, 1160, 1163, 1164, 1165, 1168, 1169, 1170, 1171, 1172, 1173, 1174, 1175, 1176, 1177, 1178, 1179, 1180, 1181, 1182, 1183, 1184, 1185, 1186, 1187, 1188, 1189, 1190, 1192, 1193, 1194, 1195, 1196, 1197, 1198, 1199, 1202, 1203, 1204, 1207, 1210, 1211, 1212, 1213, 1214, 1215, 1216, 1217, 1218, 1219, 1220, 1221, 1222, 1223, 1224, 1225, 1226, 1227, 1228, 1229, 1230, 1231, 1232, 1233, 1234, 1235, 1236, 1237, 1238, 1241, 1242, 1243, 1244, 1245, 1246, 1247, 1248, 1249, 1250, 1251, 1252, 1253, 1254, 1255, 1256, 1257, 1258, 1259, 1260, 1261, 1262, 1263, 1264, 1265, 1266, 1267, 1270, 1273, 1274, 1275, 1278, 1281, 1282]
def am_PR : List (List am_I) := [cd_0, cd_1, cd_2, cd_3, cd_4, cd_5, cd_6, cd_7, cd_8, cd_9, cd_10, cd_11, cd_12, cd_13, cd_14, cd_15, cd_16, cd_17, cd_18, cd_19, cd_20, cd_21, cd_22, cd_23, cd_24, cd_25, cd_26, cd_27, cd_28, cd_29, cd_30, cd_31, cd_32, cd_33, cd_34, cd_35, cd_36, cd_37, cd_38, cd_39, cd_40, cd_41, cd_42, cd_43, cd_44, cd_45, cd_46, cd_47, cd_48, cd_49, cd_50, cd_51, cd_52, cd_53, cd_54, cd_55, cd_56, cd_57, cd_58, cd_59, cd_60, cd_61, cd_62, cd_63, cd_64, cd_65, cd_66, cd_67, cd_68, cd_69, cd_70, cd_71, cd_72, cd_73, cd_74, cd_75, cd_76, cd_77, cd_78, cd_79, cd_80, cd_81, cd_82, cd_83, cd_84, cd_85, cd_86, cd_87, cd_88, cd_89, cd_90, cd_91, cd_92, cd_93, cd_94, cd_95, cd_96, cd_97, cd_98, cd_99, cd_100, cd_101, cd_102, cd_103, cd_104, cd_105, cd_106, cd_107, cd_108, cd_109, cd_110, cd_111, cd_112, cd_113, cd_114, cd_115, cd_116, cd_117, cd_118, cd_119, cd_120, cd_121, cd_122, cd_123, cd_124, cd_125, cd_126, cd_127, cd_128, cd_129, cd_130, cd_131, cd_132, cd_133, cd_134, cd_135, cd_136, cd_137, cd_138, cd_139, cd_140, cd_141, cd_142, cd_143, cd_144, cd_145, cd_146, cd_147, cd_148, cd_149, cd_150, cd_151, cd_152, cd_153, cd_154, cd_155, cd_156, cd_157, cd_158, cd_159, cd_160, cd_161, cd_162, cd_163, cd_164, cd_165, cd_166, cd_167, cd_168, cd_169, cd_170, cd_171, cd_172, cd_173, cd_174, cd_175, cd_176, cd_177, cd_178, cd_179, cd_180, cd_181, cd_182, cd_183, cd_184, cd_185, cd_186, cd_187, cd_188, cd_189, cd_190, cd_191, cd_192, cd_193, cd_194, cd_195, cd_196, cd_197, cd_198, cd_199, cd_200, cd_201, cd_202, cd_203, cd_204, cd_205, cd_206, cd_207, cd_208, cd_209, cd_210, cd_211, cd_212, cd_213, cd_214, cd_215, cd_216, cd_217, cd_218, cd_219, cd_220, cd_221, cd_222, cd_223, cd_224, cd_225, cd_226, cd_227, cd_228, cd_229, cd_230, cd_231, cd_232]
def am_PC : List (List Nat) := [pc_0, pc_1, pc_2, pc_3, pc_4, pc_5, pc_6, pc_7, pc_8, pc_9, pc_10, pc_11, pc_12, pc_13, pc_14, pc_15, pc_16, pc_17, pc_18, pc_19, pc_20, pc_21, pc_22, pc_23, pc_24, pc_25, pc_26, pc_27, pc_28, pc_29, pc_30, pc_31, pc_32, pc_33, pc_34, pc_35, pc_36, pc_37, pc_38, pc_39, pc_40, pc_41, pc_42, pc_43, pc_44, pc_45, pc_46, pc_47, pc_48, pc_49, pc_50, pc_51, pc_52, pc_53, pc_54, pc_55, pc_56, pc_57, pc_58, pc_59, pc_60, pc_61, pc_62, pc_63, pc_64, pc_65, pc_66, pc_67, pc_68, pc_69, pc_70, pc_71, pc_72, pc_73, pc_74, pc_75, pc_76, pc_77, pc_78, pc_79, pc_80, pc_81, pc_82, pc_83, pc_84, pc_85, pc_86, pc_87, pc_88, pc_89, pc_90, pc_91, pc_92, pc_93, pc_94, pc_95, pc_96, pc_97, pc_98, pc_99, pc_100, pc_101, pc_102, pc_103, pc_104, pc_105, pc_106, pc_107, pc_108, pc_109, pc_110, pc_111, pc_112, pc_113, pc_114, pc_115, pc_116, pc_117, pc_118, pc_119, pc_120, pc_121, pc_122, pc_123, pc_124, pc_125, pc_126, pc_127, pc_128, pc_129, pc_130, pc_131, pc_132, pc_133, pc_134, pc_135, pc_136, pc_137, pc_138, pc_139, pc_140, pc_141, pc_142, pc_143, pc_144, pc_145, pc_146, pc_147, pc_148, pc_149, pc_150, pc_151, pc_152, pc_153, pc_154, pc_155, pc_156, pc_157, pc_158, pc_159, pc_160, pc_161, pc_162, pc_163, pc_164, pc_165, pc_166, pc_167, pc_168, pc_169, pc_170, pc_171, pc_172, pc_173, pc_174, pc_175, pc_176, pc_177, pc_178, pc_179, pc_180, pc_181, pc_182, pc_183, pc_184, pc_185, pc_186, pc_187, pc_188, pc_189, pc_190, pc_191, pc_192, pc_193, pc_194, pc_195, pc_196, pc_197, pc_198, pc_199, pc_200, pc_201, pc_202, pc_203, pc_204, pc_205, pc_206, pc_207, pc_208, pc_209, pc_210, pc_211, pc_212, pc_213, pc_214, pc_215, pc_216, pc_217, pc_218, pc_219, pc_220, pc_221, pc_222, pc_223, pc_224, pc_225, pc_226, pc_227, pc_228, pc_229, pc_230, pc_231, pc_232]
def am_BY : List (ByteArray) := [prog_4_method_1_code, prog_10_method_1_code, prog_5_method_1_code, prog_7_method_1_code, prog_11_method_1_code, prog_2_method_1_code, prog_9_method_1_code, prog_8_method_1_code, prog_6_method_1_code, prog_3_method_1_code, prog_1_method_1_code, prog_13_method_1_code, prog_1_method_37_code, prog_5_method_3_code, prog_4_method_4_code, prog_11_method_2_code, prog_1_method_2_code, prog_13_method_3_code, prog_13_method_9_code, prog_13_method_11_code, prog_13_method_12_code, prog_5_method_2_code, prog_4_method_5_code, prog_11_method_3_code, prog_1_method_3_code, prog_13_method_10_code, prog_13_method_13_code, prog_4_method_3_code, prog_4_method_2_code, prog_1_method_39_code, prog_1_method_40_code, prog_1_method_4_code, prog_13_method_8_code, prog_13_method_7_code, prog_13_method_4_code, prog_13_method_14_code, prog_13_method_15_code, prog_1_method_5_code, prog_13_method_16_code, prog_11_method_8_code, prog_1_method_41_code, prog_2_method_2_code, prog_11_method_15_code, prog_2_method_3_code, prog_1_method_6_code, prog_13_method_17_code, prog_13_method_18_code, prog_13_method_19_code, prog_13_method_20_code, prog_2_method_5_code, prog_2_method_6_code, prog_2_method_4_code, prog_1_method_7_code, prog_13_method_21_code, prog_13_method_22_code, prog_14_method_49_code, prog_2_method_7_code, prog_1_method_8_code, prog_13_method_23_code, prog_13_method_24_code, prog_1_method_9_code, prog_13_method_25_code, prog_1_method_10_code, prog_13_method_26_code, prog_9_method_2_code, prog_1_method_11_code, prog_13_method_27_code, prog_9_method_3_code, prog_9_method_6_code, prog_9_method_4_code, prog_9_method_5_code, prog_1_method_42_code, prog_10_method_6_code, prog_11_method_4_code, prog_1_method_12_code, prog_13_method_28_code, prog_13_method_30_code, prog_13_method_29_code, prog_13_method_31_code, prog_17_method_103_code, prog_9_method_9_code, prog_9_method_8_code, prog_9_method_12_code, prog_9_method_13_code, prog_9_method_11_code, prog_9_method_10_code, prog_9_method_7_code, prog_4_method_6_code, prog_11_method_5_code, prog_1_method_13_code, prog_13_method_6_code, prog_13_method_35_code, prog_13_method_36_code, prog_13_method_32_code, prog_13_method_34_code, prog_13_method_33_code, prog_13_method_37_code, prog_13_method_38_code, prog_13_method_39_code, prog_13_method_40_code, prog_10_method_2_code, prog_1_method_14_code, prog_13_method_41_code, prog_11_method_9_code, prog_10_method_4_code, prog_1_method_15_code, prog_13_method_43_code, prog_13_method_42_code, prog_13_method_44_code, prog_11_method_7_code, prog_5_method_5_code, prog_7_method_2_code, prog_5_method_4_code, prog_10_method_3_code, prog_2_method_9_code, prog_2_method_8_code, prog_14_method_46_code, prog_2_method_11_code, prog_2_method_10_code, prog_11_method_16_code, prog_1_method_16_code, prog_13_method_50_code, prog_13_method_45_code, prog_13_method_46_code, prog_13_method_47_code, prog_13_method_48_code, prog_13_method_49_code, prog_13_method_51_code, prog_7_method_3_code, prog_1_method_17_code, prog_13_method_52_code, prog_1_method_18_code, prog_13_method_53_code, prog_1_method_19_code, prog_13_method_54_code, prog_2_method_12_code, prog_6_method_3_code, prog_1_method_43_code, prog_1_method_20_code, prog_13_method_55_code, prog_13_method_56_code, prog_13_method_57_code, prog_2_method_13_code, prog_6_method_6_code, prog_6_method_5_code, prog_1_method_21_code, prog_13_method_58_code, prog_13_method_59_code, prog_11_method_14_code, prog_11_method_10_code, prog_6_method_8_code, prog_6_method_2_code, prog_6_method_9_code, prog_6_method_10_code, prog_6_method_11_code, prog_6_method_7_code, prog_6_method_12_code, prog_1_method_22_code, prog_13_method_5_code, prog_13_method_60_code, prog_13_method_61_code, prog_13_method_62_code, prog_6_method_4_code, prog_1_method_23_code, prog_13_method_63_code, prog_6_method_15_code, prog_6_method_14_code, prog_6_method_13_code, prog_1_method_24_code, prog_13_method_64_code, prog_13_method_65_code, prog_13_method_66_code, prog_11_method_11_code, prog_10_method_5_code, prog_11_method_13_code, prog_1_method_25_code, prog_13_method_68_code, prog_13_method_67_code, prog_13_method_69_code, prog_11_method_12_code, prog_3_method_3_code, prog_3_method_5_code, prog_3_method_4_code, prog_3_method_2_code, prog_3_method_7_code, prog_3_method_6_code, prog_1_method_26_code, prog_13_method_70_code, prog_13_method_71_code, prog_13_method_72_code, prog_1_method_44_code, prog_1_method_27_code, prog_13_method_73_code, prog_13_method_74_code, prog_6_method_17_code, prog_6_method_18_code, prog_1_method_28_code, prog_13_method_75_code, prog_13_method_76_code, prog_7_method_4_code, prog_11_method_6_code, prog_1_method_29_code, prog_13_method_77_code, prog_1_method_30_code, prog_13_method_78_code, prog_1_method_38_code, prog_8_method_3_code, prog_8_method_4_code, prog_8_method_5_code, prog_6_method_19_code, prog_1_method_31_code, prog_13_method_79_code, prog_13_method_80_code, prog_13_method_82_code, prog_13_method_83_code, prog_13_method_84_code, prog_6_method_16_code, prog_8_method_7_code, prog_8_method_6_code, prog_1_method_32_code, prog_13_method_81_code, prog_13_method_85_code, prog_17_method_101_code, prog_8_method_2_code, prog_1_method_33_code, prog_13_method_86_code, prog_1_method_34_code, prog_13_method_87_code, prog_1_method_35_code, prog_13_method_88_code, prog_1_method_36_code, prog_13_method_89_code, code]
def am_YN : List (MethodName) := [⟨"TornBag$Goods", "<init>", "()V"⟩, ⟨"TornBag$Way", "<init>", "()V"⟩, ⟨"TornBag$Moment", "<init>", "()V"⟩, ⟨"TornBag$Past", "<init>", "()V"⟩, ⟨"TornBag$World", "<init>", "()V"⟩, ⟨"TornBag$Bag", "<init>", "()V"⟩, ⟨"TornBag$Tape", "<init>", "()V"⟩, ⟨"TornBag$Sheet", "<init>", "()V"⟩, ⟨"TornBag$Outlook", "<init>", "(LTornBag$World;)V"⟩, ⟨"TornBag$Chase", "<init>", "(LTornBag$World;)V"⟩, ⟨"TornBag", "<init>", "()V"⟩, ⟨"TornBagModel", "<init>", "()V"⟩, ⟨"TornBag", "isBelow", "(II)Z"⟩, ⟨"TornBag$Moment", "makeWhole", "(I)V"⟩, ⟨"TornBag$Goods", "addBag", "(I)V"⟩, ⟨"TornBag$World", "addBag", "(I)V"⟩, ⟨"TornBag", "bag", "(I)I"⟩, ⟨"TornBagModel", "in", "(III)Z"⟩, ⟨"TornBagModel", "bagAt", "(I)I"⟩, ⟨"TornBagModel", "addBag", "([II)V"⟩, ⟨"TornBagModel", "bag", "(I)I"⟩, ⟨"TornBag$Moment", "moveTo", "(II)I"⟩, ⟨"TornBag$Goods", "addThing", "(IIIII)V"⟩, ⟨"TornBag$World", "addThing", "(IIIII)V"⟩, ⟨"TornBag", "thing", "(IIIII)I"⟩, ⟨"TornBagModel", "thingAt", "(I)I"⟩, ⟨"TornBagModel", "thing", "(IIIII)I"⟩, ⟨"TornBag$Goods", "hasThing", "(I)Z"⟩, ⟨"TornBag$Goods", "hasBag", "(I)Z"⟩, ⟨"TornBag", "has", "(II)Z"⟩, ⟨"TornBag", "isTorn", "(I)Z"⟩, ⟨"TornBag", "pack", "(II)I"⟩, ⟨"TornBagModel", "isThing", "(I)Z"⟩, ⟨"TornBagModel", "isBag", "(I)Z"⟩, ⟨"TornBagModel", "has", "(II)Z"⟩, ⟨"TornBagModel", "isTorn", "(I)Z"⟩, ⟨"TornBagModel", "pack", "(II)I"⟩, ⟨"TornBag", "give", "(I)I"⟩, ⟨"TornBagModel", "give", "(I)I"⟩, ⟨"TornBag$World", "thingsAt", "(I)I"⟩, ⟨"TornBag", "sumOf", "([II)I"⟩, ⟨"TornBag$Bag", "hold", "(LTornBag$Goods;I)V"⟩, ⟨"TornBag$World", "load", "(LTornBag$Bag;II)V"⟩, ⟨"TornBag$Bag", "sag", "()I"⟩, ⟨"TornBag", "of", "(II)I"⟩, ⟨"TornBagModel", "thingsIn", "([II)I"⟩, ⟨"TornBagModel", "sum", "([III)I"⟩, ⟨"TornBagModel", "sag", "([II)I"⟩, ⟨"TornBagModel", "of", "(II)I"⟩, ⟨"TornBag$Bag", "paperAt", "(I)I"⟩, ⟨"TornBag$Bag", "thinAt", "(I)I"⟩, ⟨"TornBag$Bag", "strengthAt", "(I)I"⟩, ⟨"TornBag", "strength", "(II)I"⟩, ⟨"TornBagModel", "strengthOf", "([III)I"⟩, ⟨"TornBagModel", "strength", "(II)I"⟩, ⟨"java/lang/Integer", "bitCount", "(I)I"⟩, ⟨"TornBag$Bag", "forceAt", "(II)I"⟩, ⟨"TornBag", "force", "(III)I"⟩, ⟨"TornBagModel", "forceOn", "([IIII)I"⟩, ⟨"TornBagModel", "force", "(III)I"⟩, ⟨"TornBag", "told", "(II)I"⟩, ⟨"TornBagModel", "told", "(II)I"⟩, ⟨"TornBag", "set", "(III)I"⟩, ⟨"TornBagModel", "set", "(III)I"⟩, ⟨"TornBag$Tape", "add", "(I)V"⟩, ⟨"TornBag", "type", "(I)I"⟩, ⟨"TornBagModel", "type", "(I)I"⟩, ⟨"TornBag$Tape", "next", "()I"⟩, ⟨"TornBag$Tape", "sortOf", "(I)I"⟩, ⟨"TornBag$Tape", "faultHere", "()I"⟩, ⟨"TornBag$Tape", "readWay", "(LTornBag$Way;)I"⟩, ⟨"TornBag", "takeRow", "([I[I)V"⟩, ⟨"TornBag$Way", "take", "(LTornBag$Way;)V"⟩, ⟨"TornBag$World", "goAlong", "(LTornBag$Way;)V"⟩, ⟨"TornBag", "way", "()I"⟩, ⟨"TornBagModel", "look", "()I"⟩, ⟨"TornBagModel", "sortOf", "(I)I"⟩, ⟨"TornBagModel", "faults", "(I)V"⟩, ⟨"TornBagModel", "way", "()I"⟩, ⟨"java/util/Arrays", "fill", "([II)V"⟩, ⟨"TornBag$Tape", "kindOf", "(I)I"⟩, ⟨"TornBag$Tape", "readBags", "(LTornBag$Goods;)Z"⟩, ⟨"TornBag$Tape", "readWeight", "()I"⟩, ⟨"TornBag$Tape", "readMarked", "(III)I"⟩, ⟨"TornBag$Tape", "readThing", "(LTornBag$Goods;)I"⟩, ⟨"TornBag$Tape", "readThings", "(LTornBag$Goods;[I)Z"⟩, ⟨"TornBag$Tape", "readShop", "(LTornBag$Goods;[I)I"⟩, ⟨"TornBag$Goods", "take", "(LTornBag$Goods;)V"⟩, ⟨"TornBag$World", "goWith", "(LTornBag$Goods;[I)V"⟩, ⟨"TornBag", "shop", "()I"⟩, ⟨"TornBagModel", "copies", "([I[I)V"⟩, ⟨"TornBagModel", "kindOf", "(I)I"⟩, ⟨"TornBagModel", "readsBag", "()V"⟩, ⟨"TornBagModel", "takes", "(I)V"⟩, ⟨"TornBagModel", "number", "()I"⟩, ⟨"TornBagModel", "digit", "(I)I"⟩, ⟨"TornBagModel", "part", "(II)I"⟩, ⟨"TornBagModel", "readsThing", "()V"⟩, ⟨"TornBagModel", "readsShop", "()V"⟩, ⟨"TornBagModel", "shop", "()I"⟩, ⟨"TornBag$Way", "sortAt", "(I)I"⟩, ⟨"TornBag", "sort", "(I)I"⟩, ⟨"TornBagModel", "sort", "(I)I"⟩, ⟨"TornBag$World", "thingsOnGround", "()I"⟩, ⟨"TornBag$Way", "busesFrom", "(I)I"⟩, ⟨"TornBag", "count", "(I)I"⟩, ⟨"TornBagModel", "onGround", "()I"⟩, ⟨"TornBagModel", "busesLeft", "()I"⟩, ⟨"TornBagModel", "count", "(I)I"⟩, ⟨"TornBag$World", "stepsLeft", "()I"⟩, ⟨"TornBag$Moment", "take", "(LTornBag$Moment;)V"⟩, ⟨"TornBag$Past", "keep", "(LTornBag$Moment;)V"⟩, ⟨"TornBag$Moment", "drawJolt", "()I"⟩, ⟨"TornBag$Way", "joltAt", "(II)I"⟩, ⟨"TornBag$Bag", "age", "(I)V"⟩, ⟨"TornBag$Bag", "weakPlace", "(II)I"⟩, ⟨"java/lang/Integer", "lowestOneBit", "(I)I"⟩, ⟨"TornBag$Bag", "fallenBy", "(I)I"⟩, ⟨"TornBag$Bag", "carry", "(LTornBag$Goods;II)I"⟩, ⟨"TornBag$World", "walk", "(LTornBag$Bag;)I"⟩, ⟨"TornBag", "step", "()I"⟩, ⟨"TornBagModel", "notes", "()V"⟩, ⟨"TornBagModel", "least", "(II)I"⟩, ⟨"TornBagModel", "ages", "([III)V"⟩, ⟨"TornBagModel", "gives", "([III)I"⟩, ⟨"TornBagModel", "falls", "([III)I"⟩, ⟨"TornBagModel", "goes", "([II)I"⟩, ⟨"TornBagModel", "step", "()I"⟩, ⟨"TornBag$Past", "takeBack", "(LTornBag$Moment;)V"⟩, ⟨"TornBag", "undo", "()I"⟩, ⟨"TornBagModel", "undo", "()I"⟩, ⟨"TornBag", "again", "()I"⟩, ⟨"TornBagModel", "again", "()I"⟩, ⟨"TornBag", "seed", "(I)I"⟩, ⟨"TornBagModel", "seed", "(I)I"⟩, ⟨"TornBag$Bag", "firstGive", "(LTornBag$Way;II)I"⟩, ⟨"TornBag$Outlook", "firstGive", "(II)I"⟩, ⟨"TornBag", "toldStep", "(I)I"⟩, ⟨"TornBag", "holds", "(I)I"⟩, ⟨"TornBagModel", "holdsTried", "(I)I"⟩, ⟨"TornBagModel", "orNone", "(I)I"⟩, ⟨"TornBagModel", "holds", "(I)I"⟩, ⟨"TornBag$Bag", "joltsBorne", "()I"⟩, ⟨"TornBag$Outlook", "narrowLuck", "(I)V"⟩, ⟨"TornBag$Outlook", "luckyWays", "()I"⟩, ⟨"TornBag", "odds", "(I)I"⟩, ⟨"TornBagModel", "holdsBy", "(I)Z"⟩, ⟨"TornBagModel", "odds", "(I)I"⟩, ⟨"TornBag$World", "hasTornBag", "()Z"⟩, ⟨"TornBag$World", "thingsToPack", "()I"⟩, ⟨"TornBag$Outlook", "listMoved", "()V"⟩, ⟨"TornBag$Outlook", "giveWith", "(III)I"⟩, ⟨"TornBag$Outlook", "measureReach", "()V"⟩, ⟨"TornBag$Outlook", "reachOfRow", "()I"⟩, ⟨"TornBag$Outlook", "nextRow", "(I)V"⟩, ⟨"TornBag$Outlook", "findPacking", "()V"⟩, ⟨"TornBag$Outlook", "packedBag", "(I)I"⟩, ⟨"TornBag", "packing", "(I)I"⟩, ⟨"TornBagModel", "ones", "(I)I"⟩, ⟨"TornBagModel", "power", "(II)I"⟩, ⟨"TornBagModel", "packs", "(II)V"⟩, ⟨"TornBagModel", "packing", "(I)I"⟩, ⟨"TornBag$Outlook", "bagToDouble", "()I"⟩, ⟨"TornBag", "doubled", "()I"⟩, ⟨"TornBagModel", "doubled", "()I"⟩, ⟨"TornBag$Outlook", "isLessLoss", "(II)Z"⟩, ⟨"TornBag$Outlook", "leftOf", "(I)I"⟩, ⟨"TornBag$Outlook", "leftThings", "()I"⟩, ⟨"TornBag", "leave", "(I)I"⟩, ⟨"TornBagModel", "worthOf", "(I)I"⟩, ⟨"TornBagModel", "holdsWithout", "(I)Z"⟩, ⟨"TornBagModel", "leave", "(I)I"⟩, ⟨"TornBag$World", "isRolling", "(I)Z"⟩, ⟨"TornBag$Way", "rollFrom", "(I)I"⟩, ⟨"TornBag$World", "rollOf", "(I)I"⟩, ⟨"TornBag", "rolls", "(I)I"⟩, ⟨"TornBagModel", "isRolling", "(I)Z"⟩, ⟨"TornBagModel", "rollsBy", "(I)I"⟩, ⟨"TornBagModel", "rolls", "(I)I"⟩, ⟨"TornBag$World", "thingsRolling", "()I"⟩, ⟨"TornBag$Chase", "listRunners", "()V"⟩, ⟨"TornBag$Chase", "isHad", "(II)Z"⟩, ⟨"TornBag$Chase", "worthBy", "(II)I"⟩, ⟨"TornBag$Chase", "findOrder", "()V"⟩, ⟨"TornBag$Chase", "firstBest", "(I)I"⟩, ⟨"TornBag$Chase", "thingAt", "(I)I"⟩, ⟨"TornBag", "run", "(I)I"⟩, ⟨"TornBagModel", "orders", "(II)Z"⟩, ⟨"TornBagModel", "hadBy", "(I)I"⟩, ⟨"TornBagModel", "run", "(I)I"⟩, ⟨"TornBag", "tiredBy", "(III)I"⟩, ⟨"TornBag", "hands", "(III)I"⟩, ⟨"TornBagModel", "tiredBy", "(III)I"⟩, ⟨"TornBagModel", "hands", "(III)I"⟩, ⟨"TornBag$Outlook", "addFalls", "(II)V"⟩, ⟨"TornBag$Outlook", "firstFall", "(III)I"⟩, ⟨"TornBag", "torn", "(III)I"⟩, ⟨"TornBagModel", "tornAt", "(III)I"⟩, ⟨"TornBagModel", "torn", "(III)I"⟩, ⟨"TornBag$Past", "take", "(LTornBag$Past;)V"⟩, ⟨"TornBag$World", "take", "(LTornBag$World;)V"⟩, ⟨"TornBag", "image", "()I"⟩, ⟨"TornBagModel", "image", "()I"⟩, ⟨"TornBag", "restore", "()I"⟩, ⟨"TornBagModel", "restore", "()I"⟩, ⟨"TornBag", "isSheetAndLane", "(II)Z"⟩, ⟨"TornBag$Sheet", "spans", "(II)Z"⟩, ⟨"TornBag$Sheet", "refusal", "(III)I"⟩, ⟨"TornBag$Sheet", "valueAt", "(I)J"⟩, ⟨"TornBag$Outlook", "sagsAs", "(IILTornBag$Sheet;II)Z"⟩, ⟨"TornBag", "sagged", "(IIIIII)I"⟩, ⟨"TornBagModel", "isSheet", "(I)Z"⟩, ⟨"TornBagModel", "isLane", "(I)Z"⟩, ⟨"TornBagModel", "lacks", "(IIII)I"⟩, ⟨"TornBagModel", "sagsAs", "(IIII)Z"⟩, ⟨"TornBagModel", "sagged", "(IIIIII)I"⟩, ⟨"TornBag$Outlook", "findFalls", "(I)V"⟩, ⟨"TornBag$Sheet", "lowestBits", "(J)J"⟩, ⟨"TornBag$Sheet", "put", "(IJ)V"⟩, ⟨"TornBag", "film", "(IIII)I"⟩, ⟨"TornBagModel", "cut", "(IJ)J"⟩, ⟨"TornBagModel", "film", "(IIII)I"⟩, ⟨"java/util/Arrays", "fill", "([JJ)V"⟩, ⟨"TornBag$Sheet", "lay", "(II)V"⟩, ⟨"TornBag", "sheet", "(III)I"⟩, ⟨"TornBagModel", "sheet", "(III)I"⟩, ⟨"TornBag", "drop", "(I)I"⟩, ⟨"TornBagModel", "drop", "(I)I"⟩, ⟨"TornBag", "item", "(IIIJ)I"⟩, ⟨"TornBagModel", "item", "(IIIJ)I"⟩, ⟨"TornBag", "copy", "(IIIII)I"⟩, ⟨"TornBagModel", "copy", "(IIIII)I"⟩, ⟨"TornBagLaw", "law", "([I)Z"⟩]
def am_MX : List (Nat) := [1, 1, 1, 2, 1, 1, 1, 1, 2, 2, 2, 2, 2, 2, 2, 2, 2, 3, 1, 3, 2, 4, 6, 6, 6, 1, 7, 2, 2, 2, 1, 3, 2, 2, 2, 3, 4, 2, 3, 4, 4, 3, 4, 1, 3, 4, 5, 2, 3, 2, 2, 2, 3, 6, 3, 1, 5, 4, 7, 4, 4, 3, 6, 5, 2, 2, 2, 1, 1, 1, 4, 2, 2, 2, 2, 1, 1, 2, 4, 4, 1, 5, 3, 5, 7, 5, 3, 2, 4, 2, 3, 1, 2, 2, 3, 3, 3, 6, 1, 1, 2, 2, 2, 3, 4, 2, 3, 3, 2, 1, 2, 2, 1, 3, 2, 4, 1, 2, 6, 6, 1, 3, 2, 4, 5, 5, 10, 2, 2, 1, 3, 2, 2, 3, 3, 6, 5, 1, 2, 2, 2, 2, 2, 5, 4, 5, 4, 8, 2, 1, 3, 4, 4, 5, 3, 5, 3, 2, 3, 5, 5, 8, 5, 1, 5, 5, 5, 3, 3, 4, 3, 7, 2, 5, 2, 2, 2, 6, 2, 3, 3, 5, 4, 5, 3, 4, 2, 6, 7, 7, 9, 10, 8, 6, 5, 5, 8, 4, 8, 3, 2, 1, 1, 1, 1, 2, 3, 4, 2, 7, 11, 1, 1, 5, 7, 12, 3, 3, 4, 8, 4, 8, 5, 3, 4, 5, 2, 2, 7, 7, 8, 7, 4]
def am_RT : List (Option FieldType) := [none, none, none, none, none, none, none, none, none, none, none, none, (some .boolean), none, none, none, (some .int), (some .boolean), (some .int), none, (some .int), (some .int), none, none, (some .int), (some .int), (some .int), (some .boolean), (some .boolean), (some .boolean), (some .boolean), (some .int), (some .boolean), (some .boolean), (some .boolean), (some .boolean), (some .int), (some .int), (some .int), (some .int), (some .int), none, none, (some .int), (some .int), (some .int), (some .int), (some .int), (some .int), (some .int), (some .int), (some .int), (some .int), (some .int), (some .int), (some .int), (some .int), (some .int), (some .int), (some .int), (some .int), (some .int), (some .int), (some .int), none, (some .int), (some .int), (some .int), (some .int), (some .int), (some .int), none, none, none, (some .int), (some .int), (some .int), none, (some .int), none, (some .int), (some .boolean), (some .int), (some .int), (some .int), (some .boolean), (some .int), none, none, (some .int), none, (some .int), none, none, (some .int), (some .int), (some .int), none, none, (some .int), (some .int), (some .int), (some .int), (some .int), (some .int), (some .int), (some .int), (some .int), (some .int), (some .int), none, none, (some .int), (some .int), none, (some .int), (some .int), (some .int), (some .int), (some .int), (some .int), none, (some .int), none, (some .int), (some .int), (some .int), (some .int), none, (some .int), (some .int), (some .int), (some .int), (some .int), (some .int), (some .int), (some .int), (some .int), (some .int), (some .int), (some .int), (some .int), (some .int), none, (some .int), (some .int), (some .boolean), (some .int), (some .boolean), (some .int), none, (some .int), none, (some .int), none, none, (some .int), (some .int), (some .int), (some .int), none, (some .int), (some .int), (some .int), (some .int), (some .boolean), (some .int), (some .int), (some .int), (some .int), (some .boolean), (some .int), (some .boolean), (some .int), (some .int), (some .int), (some .boolean), (some .int), (some .int), (some .int), none, (some .boolean), (some .int), none, (some .int), (some .int), (some .int), (some .boolean), (some .int), (some .int), (some .int), (some .int), (some .int), (some .int), none, (some .int), (some .int), (some .int), (some .int), none, none, (some .int), (some .int), (some .int), (some .int), (some .boolean), (some .boolean), (some .int), (some .long), (some .boolean), (some .int), (some .boolean), (some .boolean), (some .int), (some .boolean), (some .int), none, (some .long), none, (some .int), (some .long), (some .int), none, none, (some .int), (some .int), (some .int), (some .int), (some .int), (some .int), (some .int), (some .int), (some .boolean)]
def am_FR : List (Nat) := [1, 1, 1, 2, 3, 1, 1, 1, 2, 1, 4, 1, 0, 1, 0, 2, 3, 0, 0, 1, 2, 1, 0, 2, 3, 0, 1, 1, 1, 0, 1, 2, 1, 1, 0, 1, 2, 2, 2, 0, 1, 2, 3, 0, 4, 1, 1, 1, 2, 0, 0, 1, 4, 1, 2, 0, 1, 4, 2, 3, 2, 2, 2, 2, 0, 1, 1, 0, 0, 0, 1, 1, 2, 3, 4, 0, 0, 0, 1, 0, 0, 1, 1, 1, 2, 3, 4, 2, 3, 5, 0, 0, 2, 1, 1, 1, 2, 3, 4, 5, 0, 1, 1, 0, 1, 2, 1, 0, 2, 1, 2, 3, 0, 1, 1, 2, 0, 2, 3, 4, 5, 1, 0, 2, 3, 2, 4, 5, 3, 4, 1, 0, 0, 0, 0, 3, 4, 0, 5, 5, 0, 6, 3, 4, 5, 6, 5, 6, 2, 1, 2, 4, 5, 1, 0, 6, 0, 7, 0, 0, 1, 6, 5, 6, 6, 2, 5, 6, 7, 1, 6, 7, 2, 1, 3, 4, 1, 1, 2, 3, 4, 1, 2, 5, 3, 4, 6, 1, 2, 3, 1, 2, 2, 3, 4, 5, 6, 5, 6, 3, 4, 5, 1, 5, 1, 1, 0, 1, 1, 4, 5, 1, 1, 0, 3, 4, 5, 0, 1, 6, 0, 5, 0, 1, 2, 2, 1, 2, 2, 2, 1, 2, 10]
def am_LC : List (Nat) := [20, 20, 20, 40, 61, 20, 20, 20, 40, 20, 81, 20, 0, 21, 0, 42, 63, 0, 0, 20, 42, 21, 0, 44, 69, 0, 22, 21, 21, 0, 21, 44, 22, 22, 0, 21, 43, 44, 43, 0, 21, 44, 66, 0, 89, 20, 20, 20, 44, 0, 0, 21, 89, 22, 47, 0, 20, 89, 44, 70, 42, 43, 42, 43, 0, 21, 22, 0, 0, 0, 20, 40, 61, 82, 103, 0, 0, 0, 21, 0, 0, 21, 21, 21, 45, 71, 95, 61, 82, 117, 0, 0, 42, 21, 22, 22, 44, 66, 91, 111, 0, 21, 22, 0, 21, 44, 20, 0, 42, 21, 61, 82, 0, 21, 21, 44, 0, 41, 67, 103, 128, 20, 0, 44, 70, 43, 94, 123, 82, 103, 20, 0, 0, 0, 0, 67, 92, 0, 116, 123, 0, 144, 67, 89, 113, 136, 123, 146, 41, 22, 42, 92, 115, 21, 0, 138, 0, 162, 0, 0, 22, 144, 116, 140, 144, 44, 115, 139, 161, 21, 144, 166, 42, 21, 63, 84, 20, 22, 47, 63, 85, 21, 45, 107, 68, 90, 131, 22, 47, 73, 21, 49, 44, 71, 92, 116, 140, 123, 146, 82, 104, 125, 22, 125, 22, 21, 0, 22, 21, 89, 115, 22, 22, 0, 67, 93, 116, 0, 22, 138, 0, 123, 0, 24, 46, 42, 21, 42, 45, 42, 40, 42, 390]
def am_OC : List (Nat) := [2, 8, 3, 5, 9, 0, 7, 6, 4, 1, 10, 11, 99, 3, 2, 9, 10, 99, 99, 99, 11, 3, 2, 9, 10, 99, 11, 2, 2, 99, 99, 10, 11, 11, 99, 11, 11, 10, 11, 9, 99, 0, 9, 0, 10, 99, 99, 99, 11, 0, 0, 0, 10, 99, 11, 99, 0, 10, 99, 11, 10, 11, 10, 11, 7, 10, 11, 7, 99, 7, 7, 99, 8, 9, 10, 11, 99, 11, 11, 99, 99, 7, 7, 7, 7, 7, 7, 2, 9, 10, 99, 99, 11, 11, 11, 11, 11, 11, 11, 11, 8, 10, 11, 9, 8, 10, 11, 11, 11, 9, 3, 5, 3, 8, 0, 0, 99, 0, 0, 9, 10, 11, 99, 99, 99, 99, 11, 11, 5, 10, 11, 10, 11, 10, 11, 0, 4, 99, 10, 11, 11, 11, 0, 4, 4, 10, 11, 11, 9, 9, 4, 4, 4, 4, 4, 4, 4, 10, 99, 11, 11, 11, 4, 10, 11, 4, 4, 4, 10, 11, 11, 11, 9, 8, 9, 10, 11, 11, 11, 9, 1, 1, 1, 1, 1, 1, 10, 11, 11, 11, 10, 10, 11, 11, 4, 4, 10, 11, 11, 5, 9, 10, 11, 10, 11, 99, 6, 6, 6, 4, 10, 99, 99, 11, 11, 11, 4, 6, 6, 10, 99, 11, 99, 6, 10, 11, 10, 11, 10, 11, 10, 11, 99]
def am_WI : List (List Nat) := [[1], [1], [1], [1], [1], [1], [1], [1], [1, 1], [1, 1], [1], [1], [1, 1], [1, 1], [1, 1], [1, 1], [1, 1], [1, 1, 1], [1], [1, 1], [1, 1], [1, 1, 1], [1, 1, 1, 1, 1, 1], [1, 1, 1, 1, 1, 1], [1, 1, 1, 1, 1, 1], [1], [1, 1, 1, 1, 1, 1], [1, 1], [1, 1], [1, 1], [1], [1, 1, 1], [1, 1], [1, 1], [1, 1], [1, 1], [1, 1, 1], [1, 1], [1, 1], [1, 1], [1, 1], [1, 1, 1], [1, 1, 1, 1], [1], [1, 1, 1], [1, 1], [1, 1, 1], [1, 1], [1, 1, 1], [1, 1], [1, 1], [1, 1], [1, 1, 1], [1, 1, 1], [1, 1, 1], [1], [1, 1, 1], [1, 1, 1, 1], [1, 1, 1, 1], [1, 1, 1, 1], [1, 1, 1], [1, 1, 1], [1, 1, 1, 1], [1, 1, 1, 1], [1, 1], [1, 1], [1, 1], [1], [1], [1], [1, 1], [1, 1], [1, 1], [1, 1], [1], [1], [1], [1, 1], [1], [1, 1], [1], [1, 1], [1], [1, 1, 1, 1], [1, 1], [1, 1, 1], [1, 1, 1], [1, 1], [1, 1, 1], [1], [1, 1], [1], [1], [1, 1], [1], [1, 1], [1, 1, 1], [1], [1], [1], [1, 1], [1, 1], [1, 1], [1], [1, 1], [1, 1], [1], [1], [1, 1], [1], [1, 1], [1, 1], [1], [1, 1, 1], [1, 1], [1, 1, 1], [1], [1, 1], [1, 1, 1, 1], [1, 1], [1], [1], [1, 1], [1, 1, 1], [1, 1, 1], [1, 1, 1], [1, 1, 1], [1], [1, 1], [1], [1], [1], [1], [1, 1], [1, 1], [1, 1, 1, 1], [1, 1, 1], [1], [1, 1], [1, 1], [1, 1], [1, 1], [1], [1, 1], [1], [1, 1], [1, 1], [1, 1], [1], [1], [1], [1, 1, 1, 1], [1], [1], [1, 1], [1], [1, 1], [1, 1], [1], [1, 1, 1], [1, 1, 1], [1, 1], [1], [1], [1], [1, 1, 1], [1, 1], [1], [1, 1], [1, 1], [1, 1], [1, 1], [1, 1], [1, 1], [1, 1], [1, 1], [1, 1], [1, 1], [1, 1], [1], [1], [1, 1, 1], [1, 1, 1], [1], [1, 1], [1, 1], [1, 1], [1, 1, 1], [1, 1], [1, 1], [1, 1, 1, 1], [1, 1, 1, 1], [1, 1, 1, 1], [1, 1, 1, 1], [1, 1, 1], [1, 1, 1, 1], [1, 1, 1, 1], [1, 1, 1, 1], [1, 1, 1, 1], [1, 1], [1, 1], [1], [1], [1], [1], [1, 1], [1, 1, 1], [1, 1, 1, 1], [1, 1], [1, 1, 1, 1, 1, 1], [1, 1, 1, 1, 1, 1, 1], [1], [1], [1, 1, 1, 1, 1], [1, 1, 1, 1, 1], [1, 1, 1, 1, 1, 1, 1], [1, 1], [1, 2], [1, 1, 2], [1, 1, 1, 1, 1], [1, 2], [1, 1, 1, 1, 1], [1, 2], [1, 1, 1], [1, 1, 1, 1], [1, 1, 1, 1], [1, 1], [1, 1], [1, 1, 1, 1, 2], [1, 1, 1, 1, 2], [1, 1, 1, 1, 1, 1], [1, 1, 1, 1, 1, 1], [1]]
def am_WC : List (Nat) := [91, 143, 162, 199, 85, 241, 284, 306, 330, 371, 77, 1019, 430, 438, 443, 434, 427, 1085, 1091, 1088, 1082, 455, 459, 451, 447, 1098, 1095, 467, 472, 478, 475, 463, 1106, 1110, 1117, 1114, 1102, 483, 1121, 491, 503, 500, 495, 507, 487, 1128, 1131, 1134, 1125, 519, 526, 515, 511, 1141, 1138, 537, 534, 530, 1148, 1145, 544, 1152, 548, 1156, 556, 552, 1160, 568, 571, 575, 564, 586, 583, 579, 560, 1168, 1171, 1175, 1164, 603, 610, 607, 623, 628, 619, 615, 600, 638, 634, 596, 1182, 1193, 1190, 1197, 1205, 1213, 1209, 1201, 1186, 1179, 648, 644, 1217, 656, 661, 652, 1225, 1229, 1221, 670, 683, 679, 690, 697, 707, 712, 722, 719, 703, 675, 666, 1237, 1251, 1248, 1254, 1257, 1245, 1233, 733, 729, 1261, 737, 1265, 741, 1269, 755, 749, 761, 745, 1277, 1281, 1273, 779, 774, 769, 765, 1289, 1285, 789, 794, 803, 813, 809, 818, 823, 799, 827, 785, 1296, 1300, 1304, 1293, 835, 831, 1308, 852, 848, 844, 840, 1316, 1320, 1312, 863, 873, 868, 859, 1328, 1332, 1324, 881, 889, 900, 896, 885, 909, 905, 877, 1340, 1344, 1336, 917, 913, 1352, 1348, 930, 926, 922, 1360, 1356, 944, 939, 935, 1364, 948, 1368, 955, 963, 959, 972, 967, 952, 1375, 1378, 1382, 1386, 1372, 981, 989, 985, 977, 1393, 1390, 1001, 997, 993, 1397, 1005, 1401, 1009, 1405, 1013, 1409, 0]
def am_WM : List (Nat) := [90, 142, 161, 198, 84, 240, 283, 305, 329, 370, 76, 1018, 429, 436, 441, 432, 425, 1084, 1090, 1087, 1080, 453, 457, 449, 445, 1097, 1093, 465, 470, 477, 474, 461, 1105, 1109, 1116, 1113, 1100, 481, 1119, 489, 502, 498, 493, 505, 485, 1127, 1130, 1133, 1123, 518, 525, 513, 509, 1140, 1136, 536, 532, 528, 1147, 1143, 542, 1150, 546, 1154, 554, 550, 1158, 567, 570, 574, 562, 585, 581, 577, 558, 1167, 1170, 1174, 1162, 602, 609, 606, 622, 627, 618, 614, 598, 636, 632, 594, 1181, 1192, 1189, 1196, 1204, 1212, 1208, 1200, 1185, 1177, 646, 642, 1215, 654, 659, 650, 1224, 1228, 1219, 668, 681, 677, 688, 695, 705, 710, 721, 718, 701, 673, 664, 1236, 1250, 1247, 1253, 1256, 1244, 1231, 731, 727, 1259, 735, 1263, 739, 1267, 753, 747, 760, 743, 1276, 1280, 1271, 777, 773, 767, 763, 1288, 1283, 787, 792, 802, 812, 808, 817, 822, 797, 825, 783, 1295, 1299, 1303, 1291, 833, 829, 1306, 851, 847, 842, 838, 1315, 1319, 1310, 861, 871, 866, 857, 1327, 1331, 1322, 879, 888, 899, 895, 883, 908, 903, 875, 1339, 1343, 1334, 916, 911, 1351, 1346, 929, 924, 920, 1359, 1354, 942, 937, 933, 1362, 946, 1366, 954, 961, 957, 970, 965, 950, 1374, 1377, 1381, 1385, 1370, 979, 988, 983, 975, 1392, 1388, 1000, 995, 991, 1395, 1003, 1399, 1007, 1403, 1011, 1407, 0]
def am_WS : List (Nat) := [0, 0, 0, 0, 0, 0, 0, 0, 0, 0, 0, 0, 0, 437, 442, 433, 426, 0, 0, 0, 1081, 454, 458, 450, 446, 0, 1094, 466, 471, 0, 0, 462, 25, 26, 0, 27, 1101, 482, 1120, 490, 0, 499, 494, 506, 486, 0, 0, 0, 1124, 0, 1, 514, 510, 0, 1137, 0, 533, 529, 0, 1144, 543, 1151, 547, 1155, 555, 551, 1159, 2, 0, 3, 563, 0, 582, 578, 559, 28, 0, 29, 1163, 0, 0, 4, 7, 8, 6, 5, 599, 637, 633, 595, 0, 0, 31, 32, 34, 36, 35, 33, 30, 1178, 647, 643, 1216, 655, 660, 651, 37, 38, 1220, 669, 682, 678, 689, 696, 706, 711, 0, 9, 702, 674, 665, 39, 0, 0, 0, 0, 40, 1232, 732, 728, 1260, 736, 1264, 740, 1268, 754, 748, 0, 744, 41, 42, 1272, 778, 10, 768, 764, 43, 1284, 788, 793, 11, 13, 12, 14, 15, 798, 826, 784, 0, 44, 45, 1292, 834, 830, 1307, 17, 16, 843, 839, 46, 47, 1311, 862, 872, 867, 858, 48, 49, 1323, 880, 18, 20, 19, 884, 21, 904, 876, 50, 51, 1335, 22, 912, 52, 1347, 23, 925, 921, 53, 1355, 943, 938, 934, 1363, 947, 1367, 0, 962, 958, 971, 966, 951, 0, 0, 54, 55, 1371, 980, 24, 984, 976, 0, 1389, 0, 996, 992, 1396, 1004, 1400, 1008, 1404, 1012, 1408, 0]
def am_WN : List (Nat) := [59, 60, 61, 62, 58, 63, 64, 65, 66, 67, 57, 68, 57, 61, 59, 58, 57, 68, 68, 68, 68, 61, 59, 58, 57, 68, 68, 59, 59, 57, 57, 57, 68, 68, 68, 68, 68, 57, 68, 58, 57, 63, 58, 63, 57, 68, 68, 68, 68, 63, 63, 63, 57, 68, 68, 70, 63, 57, 68, 68, 57, 68, 57, 68, 64, 57, 68, 64, 64, 64, 64, 57, 60, 58, 57, 68, 68, 68, 68, 72, 64, 64, 64, 64, 64, 64, 64, 59, 58, 57, 68, 68, 68, 68, 68, 68, 68, 68, 68, 68, 60, 57, 68, 58, 60, 57, 68, 68, 68, 58, 61, 62, 61, 60, 63, 63, 70, 63, 63, 58, 57, 68, 68, 68, 68, 68, 68, 68, 62, 57, 68, 57, 68, 57, 68, 63, 66, 57, 57, 68, 68, 68, 63, 66, 66, 57, 68, 68, 58, 58, 66, 66, 66, 66, 66, 66, 66, 57, 68, 68, 68, 68, 66, 57, 68, 66, 66, 66, 57, 68, 68, 68, 58, 60, 58, 57, 68, 68, 68, 58, 67, 67, 67, 67, 67, 67, 57, 68, 68, 68, 57, 57, 68, 68, 66, 66, 57, 68, 68, 62, 58, 57, 68, 57, 68, 57, 65, 65, 65, 66, 57, 68, 68, 68, 68, 68, 66, 65, 65, 57, 68, 68, 72, 65, 57, 68, 57, 68, 57, 68, 57, 68, 0]
def am_KI : List (Nat) := [238, 368, 88, 159, 327, 196, 303, 281, 140, 82, 74, 1016]
def am_KN : List (Nat) := [63, 67, 59, 61, 66, 62, 65, 64, 60, 58, 57, 68]
def am_LY : List (Nat × Nat) := [(10, 11), (9, 4), (2, 8), (20, 3), (20, 8), (20, 8), (20, 8), (20, 8), (20, 8), (8, 2), (20, 20), (3, 6), (20, 3), (20, 3), (20, 3), (20, 8), (5, 3), (22, 8), (3, 6), (20, 3), (20, 3), (20, 3), (20, 8), (3, 6), (20, 3), (20, 3), (20, 3), (20, 8), (3, 6), (20, 3), (20, 3), (20, 3), (20, 8), (3, 6), (20, 3), (20, 3), (20, 3), (20, 8), (3, 6), (20, 3), (20, 3), (20, 3), (20, 8), (3, 6), (20, 3), (20, 3), (20, 3), (20, 8), (3, 6), (20, 3), (20, 3), (20, 3), (20, 8), (3, 6), (20, 3), (20, 3), (20, 3), (20, 8), (0, 8), (7, 3), (20, 100), (8, 2), (20, 20), (2, 8), (20, 3), (20, 8), (20, 8), (20, 8), (20, 8), (20, 8), (20, 8), (23, 4), (6, 4), (21, 24), (6, 4), (21, 24), (6, 4), (21, 24), (6, 4), (21, 24), (9, 4), (2, 8), (20, 3), (20, 8), (20, 8), (20, 8), (20, 8), (20, 8), (8, 2), (20, 20), (3, 6), (20, 3), (20, 3), (20, 3), (20, 8), (5, 3), (22, 8), (3, 6), (20, 3), (20, 3), (20, 3), (20, 8), (3, 6), (20, 3), (20, 3), (20, 3), (20, 8), (3, 6), (20, 3), (20, 3), (20, 3), (20, 8), (3, 6), (20, 3), (20, 3), (20, 3), (20, 8), (3, 6), (20, 3), (20, 3), (20, 3), (20, 8), (3, 6), (20, 3), (20, 3), (20, 3), (20, 8), (3, 6), (20, 3), (20, 3), (20, 3), (20, 8), (3, 6), (20, 3), (20, 3), (20, 3), (20, 8), (4, 10), (0, 8), (20, 20), (20, 20), (20, 6), (20, 192), (20, 6), (20, 6), (1, 5), (20, 6), (20, 6), (20, 64), (11, 19), (20, 238), (20, 238), (20, 238), (20, 238), (20, 100), (20, 4), (20, 4), (21, 96), (21, 24), (20, 6), (20, 6), (20, 6)]
def am_FT : List (List Nat) := [[0, 0, 0, 0, 0, 0, 0, 0], [2, 2, 2, 0, 2], [2, 2, 2, 2, 2, 2, 0, 0], [2, 2, 2, 2, 0, 0], [2, 2, 2, 2, 2, 0, 2, 2, 2, 0], [2, 0, 0], [2, 1, 0, 0], [2, 0, 0], [2, 0], [2, 2, 2, 2], [2, 2, 1, 2, 2, 2, 2, 2, 2, 2, 2], [2, 2, 2, 2, 1, 2, 0, 2, 2, 2, 2, 0, 0, 1, 0, 0, 2, 2, 2]]
def am_NS : List (String × Nat × MethodName × String) := [("TornBag", 9, ⟨"TornBag$World", "<init>", "()V"⟩, "TornBag"), ("TornBag$World", 11, ⟨"TornBag$Goods", "<init>", "()V"⟩, "TornBag"), ("TornBag$World", 20, ⟨"TornBag$Way", "<init>", "()V"⟩, "TornBag"), ("TornBag$World", 27, ⟨"TornBag$Moment", "<init>", "()V"⟩, "TornBag"), ("TornBag$Past", 24, ⟨"TornBag$Moment", "<init>", "()V"⟩, "TornBag"), ("TornBag", 22, ⟨"TornBag$Bag", "<init>", "()V"⟩, "TornBag"), ("TornBag", 29, ⟨"TornBag$Tape", "<init>", "()V"⟩, "TornBag"), ("TornBag", 36, ⟨"TornBag$Way", "<init>", "()V"⟩, "TornBag"), ("TornBag", 43, ⟨"TornBag$Goods", "<init>", "()V"⟩, "TornBag"), ("TornBag", 54, ⟨"TornBag$Sheet", "<init>", "()V"⟩, "TornBag"), ("TornBag$Outlook", 11, ⟨"TornBag$Bag", "<init>", "()V"⟩, "TornBag"), ("TornBag$Moment", 31, ⟨"TornBag", "isBelow", "(II)Z"⟩, "TornBag"), ("TornBag$Goods", 37, ⟨"TornBag", "isBelow", "(II)Z"⟩, "TornBag"), ("TornBag$Bag", 41, ⟨"TornBag", "sumOf", "([II)I"⟩, "TornBag"), ("TornBag$Way", 23, ⟨"TornBag", "takeRow", "([I[I)V"⟩, "TornBag"), ("TornBag$Tape", 89, ⟨"TornBag", "isBelow", "(II)Z"⟩, "TornBag"), ("TornBag$Goods", 41, ⟨"TornBag", "takeRow", "([I[I)V"⟩, "TornBag"), ("TornBag$World", 78, ⟨"TornBag", "takeRow", "([I[I)V"⟩, "TornBag"), ("TornBag$Moment", 38, ⟨"TornBag", "takeRow", "([I[I)V"⟩, "TornBag"), ("TornBag$Bag", 67, ⟨"TornBag", "has", "(II)Z"⟩, "TornBag"), ("TornBag$Bag", 97, ⟨"TornBag", "isTorn", "(I)Z"⟩, "TornBag"), ("TornBag$World", 169, ⟨"TornBag", "has", "(II)Z"⟩, "TornBag"), ("TornBag$World", 117, ⟨"TornBag", "isTorn", "(I)Z"⟩, "TornBag"), ("TornBag$Outlook", 147, ⟨"TornBag", "has", "(II)Z"⟩, "TornBag"), ("TornBag$Outlook", 137, ⟨"TornBag", "takeRow", "([I[I)V"⟩, "TornBag"), ("TornBag$Outlook", 164, ⟨"TornBag", "sumOf", "([II)I"⟩, "TornBag"), ("TornBag$Chase", 32, ⟨"TornBag", "has", "(II)Z"⟩, "TornBag"), ("TornBag$Sheet", 42, ⟨"TornBag", "isBelow", "(II)Z"⟩, "TornBag")]
end
section
/-! An abstract machine over mathematical numbers: cells by number, refs in a list, ints and longs in one store. -/
abbrev am_V : Type := Nat × Int
abbrev am_F : Type := Int → Int → Int
abbrev am_L : Type := List (Int × Int × Int)
abbrev am_S : Type := Nat × am_L × am_F
abbrev am_R : Type := Nat × Nat × List am_V × List am_V × am_S
def aI (x : Int) : am_V := (0, x)
def aJ (x : Int) : am_V := (1, x)
def aP (x : Int) : am_V := (2, x)
def aV : am_V := (3, 0)
def aX : am_V := (9, 0)
def am_pr (m : Nat) : List am_I := am_PR.getD m []
def am_pc (m i : Nat) : Nat := (am_PC.getD m []).getD i 99999
def am_by (m : Nat) : ByteArray := am_BY.getD m ⟨#[]⟩
def am_yn (m : Nat) : MethodName := am_YN.getD m ⟨"", "", ""⟩
def am_mx (m : Nat) : Nat := am_MX.getD m 0
def am_rt (m : Nat) : Option FieldType := am_RT.getD m none
def am_fr (m : Nat) : Nat := am_FR.getD m 0
def am_lc (m : Nat) : Nat := am_LC.getD m 0
def am_oc (m : Nat) : Nat := am_OC.getD m 99
def am_wi (m : Nat) : List Nat := am_WI.getD m []
def am_lay (c : Int) : Nat × Nat := if c < 0 then (98, 0) else am_LY.getD c.toNat (99, 0)
def am_ft (ci k : Nat) : Nat := (am_FT.getD ci []).getD k 9
def am_sl (n : Nat) : Nat := ((am_LY.take n).map (fun q => q.2)).sum
def am_gr (l : am_L) (c k : Int) : Int := match l.find? (fun e => e.1 == c && e.2.1 == k) with
  | some e => e.2.2
  | none => -1
def w3 (x : Int) : Int := (Int32.ofInt x).toInt
def w6 (x : Int) : Int := (Int64.ofInt x).toInt
def up (h : am_F) (c k v : Int) : am_F := fun c' k' => if c' = c ∧ k' = k then v else h c' k'
def cpy (h : am_F) (s sp d dp n : Int) : am_F := fun c k => if c = d ∧ dp ≤ k ∧ k < dp + n then h s (sp + (k - dp)) else h c k
def am_pa (ps : List Int) (j : Nat) : Int := ps.getD j 0
def am_nx (L S : List am_V) (st : am_S) : Option am_R := some (0, 0, L, S, st)
def am_jp (t : Int) (L S : List am_V) (st : am_S) : Option am_R := some (1, t.toNat, L, S, st)
def am_nl (v : am_V) : Bool := v.1 != 1
def am_so (L : List am_V) (k : Nat) : Bool := k == 0 || am_nl (L.getD (k - 1) aX)
def s_cst (ps : List Int) (L S : List am_V) (st : am_S) : Option am_R := am_nx L ((0, am_pa ps 0) :: S) st
def s_lcst (ps : List Int) (L S : List am_V) (st : am_S) : Option am_R := am_nx L ((1, am_pa ps 0) :: S) st
def s_ld (t : Nat) (ps : List Int) (L S : List am_V) (st : am_S) : Option am_R := match L[(am_pa ps 0).toNat]? with
  | some v => if v.1 = t then am_nx L (v :: S) st else none
  | none => none
def s_st (t : Nat) (ps : List Int) (L S : List am_V) (st : am_S) : Option am_R := match S with
  | v :: S' => if v.1 = t ∧ (am_pa ps 0).toNat < L.length ∧ am_so L (am_pa ps 0).toNat = true then am_nx (L.set (am_pa ps 0).toNat v) S' st else none
  | [] => none
def s_inc (ps : List Int) (L S : List am_V) (st : am_S) : Option am_R := match L[(am_pa ps 0).toNat]? with
  | some v => if v.1 = 0 ∧ am_so L (am_pa ps 0).toNat = true then am_nx (L.set (am_pa ps 0).toNat (0, w3 (v.2 + am_pa ps 1))) S st else none
  | none => none
def s_bin (f : Int32 → Int32 → Int32) (L S : List am_V) (st : am_S) : Option am_R := match S with
  | (0, b) :: (0, a) :: S' => am_nx L ((0, (f (Int32.ofInt a) (Int32.ofInt b)).toInt) :: S') st
  | _ => none
def s_bin0 (f : Int32 → Int32 → Int32) (L S : List am_V) (st : am_S) : Option am_R := match S with
  | (0, b) :: (0, a) :: S' => if b = 0 then none else am_nx L ((0, (f (Int32.ofInt a) (Int32.ofInt b)).toInt) :: S') st
  | _ => none
def s_un (f : Int32 → Int32) (L S : List am_V) (st : am_S) : Option am_R := match S with
  | (0, a) :: S' => am_nx L ((0, (f (Int32.ofInt a)).toInt) :: S') st
  | _ => none
def s_lbin (f : Int64 → Int64 → Int64) (L S : List am_V) (st : am_S) : Option am_R := match S with
  | (1, b) :: (1, a) :: S' => am_nx L ((1, (f (Int64.ofInt a) (Int64.ofInt b)).toInt) :: S') st
  | _ => none
def s_lsh (f : Int64 → Int32 → Int64) (L S : List am_V) (st : am_S) : Option am_R := match S with
  | (0, b) :: (1, a) :: S' => am_nx L ((1, (f (Int64.ofInt a) (Int32.ofInt b)).toInt) :: S') st
  | _ => none
def s_lcmp (L S : List am_V) (st : am_S) : Option am_R := match S with
  | (1, b) :: (1, a) :: S' => am_nx L ((0, (lg_cmp (Int64.ofInt a) (Int64.ofInt b)).toInt) :: S') st
  | _ => none
def s_i2l (L S : List am_V) (st : am_S) : Option am_R := match S with
  | (0, a) :: S' => am_nx L ((1, ((Int32.ofInt a).toInt64).toInt) :: S') st
  | _ => none
def s_l2i (L S : List am_V) (st : am_S) : Option am_R := match S with
  | (1, a) :: S' => am_nx L ((0, ((Int64.ofInt a).toInt32).toInt) :: S') st
  | _ => none
def s_pop (L S : List am_V) (st : am_S) : Option am_R := match S with
  | v :: S' => if am_nl v = true then am_nx L S' st else none
  | [] => none
def s_dup (L S : List am_V) (st : am_S) : Option am_R := match S with
  | v :: S' => if am_nl v = true then am_nx L (v :: v :: S') st else none
  | [] => none
def s_dup2 (L S : List am_V) (st : am_S) : Option am_R := match S with
  | v :: u :: S' => if am_nl v = true ∧ am_nl u = true then am_nx L (v :: u :: v :: u :: S') st else none
  | _ => none
def am_cn (c a b : Int) : Bool := if c = 0 then decide (a = b) else if c = 1 then decide (¬ a = b) else if c = 2 then decide (a < b) else if c = 3 then decide (b ≤ a) else if c = 4 then decide (b < a) else decide (a ≤ b)
def s_ifc (ps : List Int) (L S : List am_V) (st : am_S) : Option am_R := match S with
  | (0, a) :: S' => if am_cn (am_pa ps 0) a 0 = true then am_jp (am_pa ps 1) L S' st else am_nx L S' st
  | _ => none
def s_icmp (ps : List Int) (L S : List am_V) (st : am_S) : Option am_R := match S with
  | (0, b) :: (0, a) :: S' => if am_cn (am_pa ps 0) a b = true then am_jp (am_pa ps 1) L S' st else am_nx L S' st
  | _ => none
def s_goto (ps : List Int) (L S : List am_V) (st : am_S) : Option am_R := am_jp (am_pa ps 0) L S st
def s_tsw (ps : List Int) (L S : List am_V) (st : am_S) : Option am_R := match S with
  | (0, v) :: S' => if am_pa ps 0 ≤ v ∧ v ≤ am_pa ps 1 then am_jp (am_pa ps (3 + (v - am_pa ps 0).toNat)) L S' st else am_jp (am_pa ps 2) L S' st
  | _ => none
def am_lk : List Int → Int → Int → Int
  | k :: t :: r, v, d => if k = v then t else am_lk r v d
  | _, _, d => d
def s_lsw (ps : List Int) (L S : List am_V) (st : am_S) : Option am_R := match S with
  | (0, v) :: S' => am_jp (am_lk (ps.drop 1) v (am_pa ps 0)) L S' st
  | _ => none
/-- a cell of this kind that there is -/
def am_is (st : am_S) (c : Int) (kd : Nat) : Bool := decide (c.toNat < st.1) && decide ((am_lay c).1 = kd) && decide (0 ≤ c)
def s_gI (ps : List Int) (L S : List am_V) (st : am_S) : Option am_R := match S with
  | (2, c) :: S' => if am_is st c (am_pa ps 0).toNat = true then am_nx L ((0, st.2.2 c (am_pa ps 1)) :: S') st else none
  | _ => none
def s_gR (ps : List Int) (L S : List am_V) (st : am_S) : Option am_R := match S with
  | (2, c) :: S' => if am_is st c (am_pa ps 0).toNat = true ∧ 0 ≤ am_gr st.2.1 c (am_pa ps 1) then am_nx L ((2, am_gr st.2.1 c (am_pa ps 1)) :: S') st else none
  | _ => none
def s_pI (ps : List Int) (L S : List am_V) (st : am_S) : Option am_R := match S with
  | (0, v) :: (2, c) :: S' => if am_is st c (am_pa ps 0).toNat = true then am_nx L S' (st.1, st.2.1, up st.2.2 c (am_pa ps 1) v) else none
  | _ => none
def s_pZ (ps : List Int) (L S : List am_V) (st : am_S) : Option am_R := match S with
  | (0, v) :: (2, c) :: S' => if am_is st c (am_pa ps 0).toNat = true ∧ (v = 0 ∨ v = 1) then am_nx L S' (st.1, st.2.1, up st.2.2 c (am_pa ps 1) v) else none
  | _ => none
def s_pF (ps : List Int) (L S : List am_V) (st : am_S) : Option am_R := match S with
  | (2, v) :: (2, c) :: S' => if am_is st c (am_pa ps 0).toNat = true ∧ 0 ≤ v then am_nx L S' (st.1, (c, am_pa ps 1, v) :: st.2.1, st.2.2) else none
  | _ => none
def am_ix (c i : Int) : Bool := decide (0 ≤ i) && decide (i < ((am_lay c).2 : Int))
def s_iald (L S : List am_V) (st : am_S) : Option am_R := match S with
  | (0, i) :: (2, c) :: S' => if c = -1 then (if 0 ≤ i ∧ i < st.2.2 (-1) (-1) then am_nx L ((0, st.2.2 (-1) i) :: S') st else none) else if am_is st c 20 = true ∧ am_ix c i = true then am_nx L ((0, st.2.2 c i) :: S') st else none
  | _ => none
def s_iast (L S : List am_V) (st : am_S) : Option am_R := match S with
  | (0, v) :: (0, i) :: (2, c) :: S' => if am_is st c 20 = true ∧ am_ix c i = true then am_nx L S' (st.1, st.2.1, up st.2.2 c i v) else none
  | _ => none
def s_lald (L S : List am_V) (st : am_S) : Option am_R := match S with
  | (0, i) :: (2, c) :: S' => if am_is st c 21 = true ∧ am_ix c i = true then am_nx L ((1, st.2.2 c i) :: S') st else none
  | _ => none
def s_last (L S : List am_V) (st : am_S) : Option am_R := match S with
  | (1, v) :: (0, i) :: (2, c) :: S' => if am_is st c 21 = true ∧ am_ix c i = true then am_nx L S' (st.1, st.2.1, up st.2.2 c i v) else none
  | _ => none
def s_aald (L S : List am_V) (st : am_S) : Option am_R := match S with
  | (0, i) :: (2, c) :: S' => if (am_is st c 22 = true ∨ am_is st c 23 = true) ∧ am_ix c i = true ∧ 0 ≤ am_gr st.2.1 c i then am_nx L ((2, am_gr st.2.1 c i) :: S') st else none
  | _ => none
def s_aast (L S : List am_V) (st : am_S) : Option am_R := match S with
  | (2, v) :: (0, i) :: (2, c) :: S' => if ((am_is st c 22 = true ∧ am_is st v 3 = true) ∨ (am_is st c 23 = true ∧ am_is st v 6 = true)) ∧ am_ix c i = true then am_nx L S' (st.1, (c, i, v) :: st.2.1, st.2.2) else none
  | _ => none
def s_alen (L S : List am_V) (st : am_S) : Option am_R := match S with
  | (2, c) :: S' => if c = -1 then am_nx L ((0, st.2.2 (-1) (-1)) :: S') st else if am_is st c 20 = true ∨ am_is st c 21 = true then am_nx L ((0, ((am_lay c).2 : Int)) :: S') st else none
  | _ => none
def s_narr (ps : List Int) (L S : List am_V) (st : am_S) : Option am_R := match S with
  | (0, k) :: S' => if am_LY[st.1]? = some (20 + (am_pa ps 0).toNat, k.toNat) ∧ 0 ≤ k then am_nx L ((2, (st.1 : Int)) :: S') (st.1 + 1, st.2.1, st.2.2) else none
  | _ => none
def s_anew (ps : List Int) (L S : List am_V) (st : am_S) : Option am_R := match S with
  | (0, k) :: S' => if am_LY[st.1]? = some (22 + (am_pa ps 0).toNat, k.toNat) ∧ 0 ≤ k then am_nx L ((2, (st.1 : Int)) :: S') (st.1 + 1, st.2.1, st.2.2) else none
  | _ => none
def s_new (ps : List Int) (L S : List am_V) (st : am_S) : Option am_R :=
  if (am_LY[st.1]?).map (fun q => q.1) = some (am_pa ps 0).toNat then am_nx L ((2, (st.1 : Int)) :: S) (st.1 + 1, st.2.1, st.2.2) else none
def am_cat (v : am_V) : Nat := if v.1 = 1 then 2 else 1
def am_w8 (S : List am_V) : Bool := decide ((S.map am_cat).sum ≤ 8)
/-- the arguments are as the method wants them: width by width; a receiver of its class -/
def am_ck (m : Nat) (As : List am_V) (st : am_S) : Bool := decide (As.map am_cat = am_wi m) && (am_oc m == 99 || (match As with
  | v :: _ => v.1 == 2 && am_is st v.2 (am_oc m)
  | [] => false))
def s_call (ps : List Int) (L S : List am_V) (st : am_S) : Option am_R :=
  if am_w8 (S.drop (am_pa ps 1).toNat) = true ∧ am_ck (am_pa ps 0).toNat (S.take (am_pa ps 1).toNat).reverse st = true then some (2, (am_pa ps 0).toNat, (S.take (am_pa ps 1).toNat).reverse, S.drop (am_pa ps 1).toNat, st) else none
def s_oini (L S : List am_V) (st : am_S) : Option am_R := match S with
  | (2, _) :: S' => if am_w8 S' = true then am_nx L S' st else none
  | _ => none
def s_acpy (L S : List am_V) (st : am_S) : Option am_R := match S with
  | (0, n) :: (0, dp) :: (2, d) :: (0, sp) :: (2, s) :: S' => if ((am_is st s 20 = true ∧ am_is st d 20 = true) ∨ (am_is st s 21 = true ∧ am_is st d 21 = true)) ∧ 0 ≤ n ∧ 0 ≤ sp ∧ 0 ≤ dp ∧ sp + n ≤ ((am_lay s).2 : Int) ∧ dp + n ≤ ((am_lay d).2 : Int) ∧ am_w8 S' = true then am_nx L S' (st.1, st.2.1, cpy st.2.2 s sp d dp n) else none
  | _ => none
def s_mx (L S : List am_V) (st : am_S) : Option am_R := match S with
  | (0, b) :: (0, a) :: S' => if am_w8 S' = true then am_nx L ((0, if a < b then b else a) :: S') st else none
  | _ => none
def s_mn (L S : List am_V) (st : am_S) : Option am_R := match S with
  | (0, b) :: (0, a) :: S' => if am_w8 S' = true then am_nx L ((0, if b < a then b else a) :: S') st else none
  | _ => none
def s_iret (L S : List am_V) (st : am_S) : Option am_R := match S with
  | [(0, v)] => some (3, 0, [(0, v)], [], st)
  | _ => none
def s_zret (L S : List am_V) (st : am_S) : Option am_R := match S with
  | [(0, v)] => if v = 0 ∨ v = 1 then some (3, 0, [(0, v)], [], st) else none
  | _ => none
def s_lret (L S : List am_V) (st : am_S) : Option am_R := match S with
  | [(1, v)] => some (3, 0, [(1, v)], [], st)
  | _ => none
def s_vret (L S : List am_V) (st : am_S) : Option am_R := match S with
  | [] => some (3, 0, [aV], [], st)
  | _ => none
def am_se (a : am_I) (L S : List am_V) (st : am_S) : Option am_R := match a.1 with
  | 0 => s_cst a.2 L S st
  | 1 => s_cst a.2 L S st
  | 2 => s_cst a.2 L S st
  | 3 => s_cst a.2 L S st
  | 4 => s_cst a.2 L S st
  | 5 => s_lcst a.2 L S st
  | 6 => s_lcst a.2 L S st
  | 7 => s_ld 0 a.2 L S st
  | 8 => s_ld 2 a.2 L S st
  | 9 => s_ld 1 a.2 L S st
  | 10 => s_st 0 a.2 L S st
  | 11 => s_st 2 a.2 L S st
  | 12 => s_inc a.2 L S st
  | 13 => s_bin (fun x y => x + y) L S st
  | 14 => s_bin (fun x y => x - y) L S st
  | 15 => s_bin (fun x y => x * y) L S st
  | 16 => s_bin0 (fun x y => x / y) L S st
  | 17 => s_bin0 (fun x y => x - x / y * y) L S st
  | 18 => s_un (fun x => -x) L S st
  | 19 => s_bin (fun x y => x <<< (y &&& 31)) L S st
  | 20 => s_bin (fun x y => x >>> (y &&& 31)) L S st
  | 21 => s_bin (fun x y => (x.toUInt32 >>> (y.toUInt32 &&& Int32.toUInt32 31)).toInt32) L S st
  | 22 => s_bin (fun x y => x &&& y) L S st
  | 23 => s_bin (fun x y => x ||| y) L S st
  | 24 => s_bin (fun x y => x ^^^ y) L S st
  | 25 => s_lbin (fun x y => x + y) L S st
  | 26 => s_lbin (fun x y => x * y) L S st
  | 27 => s_lbin (fun x y => x &&& y) L S st
  | 28 => s_lbin (fun x y => x ||| y) L S st
  | 29 => s_lsh (fun x y => x <<< (y.toInt64 &&& 63)) L S st
  | 30 => s_lsh (fun x y => x >>> (y.toInt64 &&& 63)) L S st
  | 31 => s_lcmp L S st
  | 32 => s_i2l L S st
  | 33 => s_l2i L S st
  | 34 => s_un (fun x => x.toInt8.toInt32) L S st
  | 35 => s_un (fun x => x.toInt16.toInt32) L S st
  | 36 => s_pop L S st
  | 37 => s_dup L S st
  | 38 => s_dup2 L S st
  | 39 => s_ifc a.2 L S st
  | 40 => s_icmp a.2 L S st
  | 41 => s_goto a.2 L S st
  | 42 => s_tsw a.2 L S st
  | 43 => s_lsw a.2 L S st
  | 44 => s_gI a.2 L S st
  | 45 => s_gR a.2 L S st
  | 46 => s_pI a.2 L S st
  | 47 => s_pZ a.2 L S st
  | 48 => s_pF a.2 L S st
  | 49 => s_iald L S st
  | 50 => s_iast L S st
  | 51 => s_lald L S st
  | 52 => s_last L S st
  | 53 => s_aald L S st
  | 54 => s_aast L S st
  | 55 => s_alen L S st
  | 56 => s_narr a.2 L S st
  | 57 => s_anew a.2 L S st
  | 58 => s_new a.2 L S st
  | 59 => s_call a.2 L S st
  | 60 => s_oini L S st
  | 61 => s_acpy L S st
  | 62 => s_iret L S st
  | 63 => s_zret L S st
  | 64 => s_lret L S st
  | 65 => s_vret L S st
  | 66 => s_mx L S st
  | 67 => s_mn L S st
  | _ => none
/-- a method's locals at its start -/
def am_pl : List Nat → List am_V → List am_V
  | w :: ws, v :: vs => if w = 2 then v :: aX :: am_pl ws vs else v :: am_pl ws vs
  | _, _ => []
def am_en (m : Nat) (As : List am_V) : List am_V := am_pl (am_wi m) As ++ List.replicate (am_mx m - (am_wi m).sum) aX
def am_pu (r : am_V) (S : List am_V) : List am_V := if r.1 = 3 then S else r :: S
def am_ju (m : Nat) (t : Int) : List am_I := (am_pr m).drop t.toNat
def am_run : Nat → Nat → List am_I → List am_V → List am_V → am_S → Option (am_V × am_S)
  | 0, _, _, _, _, _ => none
  | _ + 1, _, [], _, _, _ => none
  | n + 1, m, a :: is, L, S, st => match am_se a L S st with
    | none => none
    | some (0, _, L', S', st') => am_run n m is L' S' st'
    | some (1, t, L', S', st') => am_run n m ((am_pr m).drop t) L' S' st'
    | some (2, m', As, S', st') => match am_run n m' (am_pr m') (am_en m' As) [] st' with
      | some (r, st'') => am_run n m is L (am_pu r S') st''
      | none => none
    | some (_, _, v :: _, _, st') => some (v, st')
    | some (_, _, [], _, _) => none
end
section
abbrev am_G : Type := Nat × va_G × (ClassId × ClassId × ClassId × ClassId) × (Nat × Nat × (Nat → Int32))
def am_vv (g : am_G) (v : am_V) : Value := match v.1 with
  | 0 => .int (Int32.ofInt v.2)
  | 1 => .long (Int64.ofInt v.2)
  | _ => .ref (if v.2 < 0 then g.2.2.2.1 else g.1 + v.2.toNat)
def am_vs (g : am_G) (S : List am_V) : List Value := S.map (am_vv g)
def am_oR (g : am_G) (v : Int) : Option Nat := if v < 0 then none else some (g.1 + v.toNat)
def am_fv (g : am_G) (kd k : Nat) (hv rv : Int) : Value := if am_ft kd k = 2 then va_rf (am_oR g rv) else .int (Int32.ofInt hv)
def am_ce (g : am_G) (st : am_S) (c : Nat) : va_E :=
  if (am_lay c).1 = 20 then .inl (g.2.2.1.1, (am_lay c).2, .inl (fun j => Int32.ofInt (st.2.2 c j)))
  else if (am_lay c).1 = 21 then .inl (g.2.2.1.2.1, (am_lay c).2, .inr (.inl (fun j => Int64.ofInt (st.2.2 c j))))
  else if (am_lay c).1 = 22 then .inl (g.2.2.1.2.2.1, (am_lay c).2, .inr (.inr (.inr (.inr (fun j => am_oR g (am_gr st.2.1 c j))))))
  else if (am_lay c).1 = 23 then .inl (g.2.2.1.2.2.2, (am_lay c).2, .inr (.inr (.inr (.inr (fun j => am_oR g (am_gr st.2.1 c j))))))
  else .inr ((am_lay c).1, (List.range (am_lay c).2).map (fun k => am_fv g (am_lay c).1 k (st.2.2 c k) (am_gr st.2.1 c k)))
def am_cv (g : am_G) (st : am_S) : va_W := (List.range st.1).map (fun c => (g.1 + c, am_ce g st c))
theorem am_cv_at {g : am_G} {st : am_S} {c : Nat} (h : c < st.1) : (am_cv g st)[c]? = some (g.1 + c, am_ce g st c) := by
  simp [am_cv, h]
theorem am_cv_len {g : am_G} {st : am_S} : (am_cv g st).length = st.1 := by simp [am_cv]
theorem am_cv_inv {g : am_G} {st : am_S} {k : Nat} {q : Nat × va_E} (h : (am_cv g st)[k]? = some q) : k < st.1 ∧ q = (g.1 + k, am_ce g st k) := by
  have hl : k < (am_cv g st).length := (List.getElem?_eq_some_iff.mp h).1
  rw [am_cv_len] at hl
  rw [am_cv_at hl] at h
  exact ⟨hl, (Option.some.inj h).symm⟩
theorem am_cv_D {g : am_G} {st : am_S} : va_D (fun q => g.1 ≤ q) (am_cv g st) := by
  refine ⟨fun i j x y hi hj hxy => ?_, fun k q hk => ?_⟩
  · obtain ⟨-, rfl⟩ := am_cv_inv hi
    obtain ⟨-, rfl⟩ := am_cv_inv hj
    dsimp only at hxy
    omega
  · obtain ⟨-, rfl⟩ := am_cv_inv hk
    exact Nat.le_add_right _ _
theorem am_cv_set {g : am_G} {st st' : am_S} {c : Nat} (hn : st'.1 = st.1) (ho : ∀ c' : Nat, c' ≠ c → am_ce g st' c' = am_ce g st c') : (am_cv g st).set c (g.1 + c, am_ce g st' c) = am_cv g st' := by
  apply List.ext_getElem?
  intro k
  by_cases hk : k < st.1
  · rw [am_cv_at (st := st') (by omega)]
    by_cases hkc : k = c
    · subst hkc
      rw [List.getElem?_set_self (by rw [am_cv_len]; exact hk)]
    · rw [List.getElem?_set_ne (Ne.symm hkc), am_cv_at hk, ho k hkc]
  · rw [List.getElem?_eq_none (by simp [am_cv_len]; omega), List.getElem?_eq_none (by simp [am_cv_len]; omega)]
theorem am_cv_push {g : am_G} {n : Nat} {rl : am_L} {h : am_F} : am_cv g (n + 1, rl, h) = am_cv g (n, rl, h) ++ [(g.1 + n, am_ce g (n + 1, rl, h) n)] := by
  simp only [am_cv, List.range_succ, List.map_append, List.map_cons, List.map_nil]
  rfl
theorem up_ne {h : am_F} {c c' : Int} (hc : c' ≠ c) (k v : Int) : up h c k v c' = h c' := by
  funext k'
  simp [up, hc]
theorem up_s {h : am_F} {c k v : Int} : up h c k v c k = v := by simp [up]
theorem up_k {h : am_F} {c k k' v : Int} (hk : k' ≠ k) : up h c k v c k' = h c k' := by simp [up, hk]
theorem gr_ne {l : am_L} {c c' k v : Int} (hc : c' ≠ c) (k' : Int) : am_gr ((c, k, v) :: l) c' k' = am_gr l c' k' := by
  have : (c == c') = false := by simp [Ne.symm hc]
  simp [am_gr, List.find?, this]
theorem gr_s {l : am_L} {c k v : Int} : am_gr ((c, k, v) :: l) c k = v := by simp [am_gr, List.find?]
theorem gr_k {l : am_L} {c k k' v : Int} (hk : k' ≠ k) : am_gr ((c, k, v) :: l) c k' = am_gr l c k' := by
  have : (k == k') = false := by simp [Ne.symm hk]
  simp [am_gr, List.find?, this]
theorem am_ce_n {g : am_G} {n n' : Nat} {rl : am_L} {h : am_F} {c : Nat} : am_ce g (n, rl, h) c = am_ce g (n', rl, h) c := rfl
theorem am_ce_h {g : am_G} {n n' : Nat} {rl rl' : am_L} {h h' : am_F} {c : Nat} (hh : h' c = h c) (hr : am_gr rl' c = am_gr rl c) : am_ce g (n, rl', h') c = am_ce g (n', rl, h) c := by
  simp only [am_ce, hh, hr]
theorem am_int_ne {a b : Nat} (h : a ≠ b) : (a : Int) ≠ (b : Int) := fun e => h (Int.ofNat.inj e)
/-- ranges -/
def r3 (x : Int) : Prop := -2147483648 ≤ x ∧ x < 2147483648
def r6 (x : Int) : Prop := -9223372036854775808 ≤ x ∧ x < 9223372036854775808
theorem r3_6 {x : Int} (h : r3 x) : r6 x := by unfold r3 r6 at *; omega
theorem r3_t (x : Int32) : r3 x.toInt := ⟨x.le_toInt, x.toInt_lt⟩
theorem r6_t (x : Int64) : r6 x.toInt := ⟨x.le_toInt, x.toInt_lt⟩
theorem o3 {x : Int} (h : r3 x) : (Int32.ofInt x).toInt = x := Int32.toInt_ofInt_of_le h.1 h.2
theorem o6 {x : Int} (h : r6 x) : (Int64.ofInt x).toInt = x := Int64.toInt_ofInt_of_le h.1 h.2
theorem w3_id {x : Int} (h1 : -2147483648 ≤ x) (h2 : x < 2147483648) : w3 x = x := o3 ⟨h1, h2⟩
theorem w6_id {x : Int} (h1 : -9223372036854775808 ≤ x) (h2 : x < 9223372036854775808) : w6 x = x := o6 ⟨h1, h2⟩
def am_v3 (v : am_V) : Prop := (v.1 = 0 → r3 v.2) ∧ (v.1 = 1 → r6 v.2)
def am_Cs (g : am_G) (st : am_S) : Prop := (∀ c k, r6 (st.2.2 c k)) ∧ (∀ c k, (am_lay c).1 ≠ 21 → r3 (st.2.2 c k)) ∧ (∀ c k, (st.1 : Int) ≤ c → st.2.2 c k = 0) ∧ (∀ c k, (st.1 : Int) ≤ c → am_gr st.2.1 c k = -1) ∧ (∀ j : Nat, j < g.2.2.2.2.1 → st.2.2 (-1) j = (g.2.2.2.2.2 j).toInt) ∧ st.2.2 (-1) (-1) = (g.2.2.2.2.1 : Int)
def am_Ca (g : am_G) (L S : List am_V) (st : am_S) : Prop := (∀ v ∈ L, am_v3 v) ∧ (∀ v ∈ S, am_v3 v) ∧ am_Cs g st
theorem v3_i (x : Int32) : am_v3 (0, x.toInt) := ⟨fun _ => r3_t x, fun h => nomatch h⟩
theorem v3_l (x : Int64) : am_v3 (1, x.toInt) := ⟨(fun h => nomatch h), fun _ => r6_t x⟩
theorem v3_p (x : Int) : am_v3 (2, x) := ⟨(fun h => nomatch h), (fun h => nomatch h)⟩
theorem Ca_tl {g : am_G} {L S : List am_V} {v : am_V} {st : am_S} (h : am_Ca g L (v :: S) st) : am_Ca g L S st := ⟨h.1, fun x hx => h.2.1 x (List.mem_cons_of_mem _ hx), h.2.2⟩
theorem Ca_hd {g : am_G} {L S : List am_V} {v : am_V} {st : am_S} (h : am_Ca g L (v :: S) st) : am_v3 v := h.2.1 v List.mem_cons_self
theorem Ca_cons {g : am_G} {L S : List am_V} {v : am_V} {st : am_S} (h : am_Ca g L S st) (hv : am_v3 v) : am_Ca g L (v :: S) st := ⟨h.1, fun x hx => by
  rcases List.mem_cons.mp hx with e | e
  · rw [e]; exact hv
  · exact h.2.1 x e, h.2.2⟩
theorem Ca_st {g : am_G} {L S : List am_V} {st st' : am_S} (h : am_Ca g L S st) (hs : am_Cs g st') : am_Ca g L S st' := ⟨h.1, h.2.1, hs⟩
theorem am_is_iff {st : am_S} {c : Int} {kd : Nat} : am_is st c kd = true ↔ c.toNat < st.1 ∧ (am_lay c).1 = kd ∧ 0 ≤ c := by
  simp [am_is, and_assoc]
theorem am_ix_iff {c i : Int} : am_ix c i = true ↔ 0 ≤ i ∧ i < ((am_lay c).2 : Int) := by simp [am_ix]
theorem Cs_up {g : am_G} {st : am_S} (h : am_Cs g st) {c k v : Int} (h0 : 0 ≤ c) (hc : c.toNat < st.1) (hv : r6 v) (hv3 : (am_lay c).1 ≠ 21 → r3 v) : am_Cs g (st.1, st.2.1, up st.2.2 c k v) := by
  obtain ⟨h1, h2, h3, h4, h5, h6⟩ := h
  refine ⟨fun c' k' => ?_, fun c' k' hl => ?_, fun c' k' hn => ?_, h4, fun j hj => ?_, ?_⟩
  · simp only [up]; split
    · exact hv
    · exact h1 c' k'
  · simp only [up]; split
    · next e => rw [e.1] at hl; exact hv3 hl
    · exact h2 c' k' hl
  · dsimp only at hn ⊢
    rw [up_ne (by omega)]
    exact h3 c' k' hn
  · dsimp only
    rw [up_ne (by omega)]
    exact h5 j hj
  · dsimp only
    rw [up_ne (by omega)]
    exact h6
theorem Cs_cpy {g : am_G} {st : am_S} (h : am_Cs g st) {s sp d dp n : Int} (h0 : 0 ≤ d) (hc : d.toNat < st.1) (hk : (am_lay s).1 = (am_lay d).1) : am_Cs g (st.1, st.2.1, cpy st.2.2 s sp d dp n) := by
  obtain ⟨h1, h2, h3, h4, h5, h6⟩ := h
  refine ⟨fun c' k' => ?_, fun c' k' hl => ?_, fun c' k' hn => ?_, h4, fun j hj => ?_, ?_⟩
  · simp only [cpy]; split
    · exact h1 _ _
    · exact h1 c' k'
  · simp only [cpy]; split
    · next e => exact h2 _ _ (by rw [hk, ← e.1]; exact hl)
    · exact h2 c' k' hl
  · dsimp only at hn ⊢
    simp only [cpy]
    rw [if_neg (by omega)]
    exact h3 c' k' hn
  · dsimp only
    simp only [cpy]
    rw [if_neg (by omega)]
    exact h5 j hj
  · dsimp only
    simp only [cpy]
    rw [if_neg (by omega)]
    exact h6
theorem Cs_ref {g : am_G} {st : am_S} (h : am_Cs g st) {c k v : Int} (h0 : 0 ≤ c) (hc : c.toNat < st.1) : am_Cs g (st.1, (c, k, v) :: st.2.1, st.2.2) := by
  obtain ⟨h1, h2, h3, h4, h5, h6⟩ := h
  refine ⟨h1, h2, h3, fun c' k' hn => ?_, h5, h6⟩
  dsimp only at hn ⊢
  rw [gr_ne (by omega)]
  exact h4 c' k' hn
theorem Cs_new {g : am_G} {st : am_S} (h : am_Cs g st) : am_Cs g (st.1 + 1, st.2.1, st.2.2) := by
  obtain ⟨h1, h2, h3, h4, h5, h6⟩ := h
  exact ⟨h1, h2, fun c' k' hn => h3 c' k' (by dsimp only at hn; omega), fun c' k' hn => h4 c' k' (by dsimp only at hn; omega), h5, h6⟩
end
section
def am_LH (g : am_G) (ls : Array Slot) (nL : Nat) (L : List am_V) : Prop := ls.size = nL ∧ lv_wf ls ∧ L.length = nL ∧ ∀ (i : Nat) (v : am_V), L[i]? = some v → v.1 < 3 → ls[i]? = some (.val (am_vv g v))
def am_ty (g : am_G) : List (ClassId × FieldType) := [(g.2.2.1.1, .int), (g.2.2.1.2.1, .long), (g.2.2.1.2.2.1, .object "TornBag$Moment"), (g.2.2.1.2.2.2, .object "TornBag$Sheet")]
def am_SB (g : am_G) (U : State) : Prop := va_K g.2.1 vwCl (am_ty g) U ∧ (∀ q ∈ am_NS, va_Nw (.methodLinkNest q.1 q.2.1 q.2.2.1 q.2.2.2) U) ∧ va_AO "TornBag$Moment" U ∧ va_AO "TornBag$Sheet" U ∧ va_X g.2.2.2.1 g.2.2.2.2.1 g.2.2.2.2.2 U U.heap ∧ g.2.2.2.1 < g.1
def am_Cx (mi : Nat) (p : Program) (R : Room) (s : State) (m : MethodId) (args : Array Value) (meth : Method) (c : Code) (g : am_G) (n0 cE : Nat) : Prop :=
  p.tables.exec = Jvm.exec ∧ c.code = am_by mi ∧ c.maxLocals = am_mx mi ∧ s.vm.findClass (am_yn mi).cls = some m.cls ∧ (∀ w ∈ am_T, w.before args s = true) ∧ ((am_yn mi).name = "<init>" → meth.name = "<init>") ∧ am_SB g s ∧ s.heap.size = g.1 + n0 ∧ am_fr mi ≤ R.frames ∧ am_lc mi ≤ R.locals ∧ cE - n0 ≤ R.cells ∧ am_sl cE - am_sl n0 ≤ R.slots ∧ meth.sig.returnType = am_rt mi ∧ meth.locks = false
def am_WW (mi : Nat) (p : Program) (l : Launch) (e : Env) (R : Room) (s : State) (m : MethodId) (args : Array Value) (below : List Frame) (meth : Method) (c : Code) (Q : State → Prop) (g : am_G) (n0 i : Nat) (L S : List am_V) (st : am_S) : Prop :=
  ∀ (ls : Array Slot) (H : Heap) (locs : List Loc), am_LH g ls (am_mx mi) L → va_P g.2.1 vwCl (am_cv g st) H → va_S (fun q => g.1 ≤ q) s.heap H locs → n0 ≤ st.1 → W p l e R s m args below meth c H locs (st.1 - n0) (am_sl st.1 - am_sl n0) Q (F0 m (am_pc mi i) ls (am_vs g S))
def am_wr (m : Nat) : List Cond := .code (am_yn m) (am_by m) (am_mx m) (am_rt m) :: am_T
def am_rm (m : Nat) (st st2 : am_S) : Room := { frames := am_fr m, cells := st2.1 - st.1, slots := am_sl st2.1 - am_sl st.1, locals := am_lc m }
def am_Pc (g : am_G) (As : List am_V) (st : am_S) : Array Value → State → Prop := fun a U => a = (am_vs g As).toArray ∧ U.heap.size = g.1 + st.1 ∧ va_P g.2.1 vwCl (am_cv g st) U.heap ∧ am_SB g U
def am_ov (g : am_G) (r : am_V) : Option Value := if r.1 = 3 then none else some (am_vv g r)
def am_Qc (g : am_G) (r : am_V) (st2 : am_S) : Array Value → State → Outcome → State → Prop := fun _ s0 o t => o = .returned (am_ov g r) ∧ va_P g.2.1 vwCl (am_cv g st2) t.heap ∧ va_F (fun q => g.1 ≤ q) s0 t
def am_MO (l : Launch) (g : am_G) (m : Nat) (As : List am_V) (st : am_S) (r : am_V) (st2 : am_S) : Prop :=
  Met l (am_yn m) (am_wr m) (am_rm m st st2) (am_Pc g As st) (am_Qc g r st2) (st2.1 - st.1) (am_sl st2.1 - am_sl st.1) (fun q => g.1 ≤ q)
def am_Sp (mi : Nat) (p : Program) (l : Launch) (e : Env) (R : Room) (s : State) (m : MethodId) (args : Array Value) (below : List Frame) (meth : Method) (c : Code) (Q : State → Prop) (g : am_G) (n0 cE i : Nat) (L S : List am_V) (st : am_S) (r : am_R) : Prop :=
  (r.1 = 0 → r.2.2.2.2.1 ≤ cE → am_WW mi p l e R s m args below meth c Q g n0 (i + 1) r.2.2.1 r.2.2.2.1 r.2.2.2.2 → am_WW mi p l e R s m args below meth c Q g n0 i L S st) ∧
  (r.1 = 1 → am_WW mi p l e R s m args below meth c Q g n0 r.2.1 r.2.2.1 r.2.2.2.1 r.2.2.2.2 → am_WW mi p l e R s m args below meth c Q g n0 i L S st) ∧
  (r.1 = 2 → ∀ (rv : am_V) (st2 : am_S), am_MO l g r.2.1 r.2.2.1 st rv st2 → st2.1 ≤ cE → st.1 ≤ st2.1 → am_WW mi p l e R s m args below meth c Q g n0 (i + 1) L (am_pu rv r.2.2.2.1) st2 → am_WW mi p l e R s m args below meth c Q g n0 i L S st)
/-- what an instruction owes -/
def am_Go (mi i : Nat) (f : List am_V → List am_V → am_S → Option am_R) : Prop := ∀ (p : Program) (l : Launch) (e : Env) (R : Room) (s : State) (m : MethodId) (args : Array Value) (below : List Frame) (meth : Method) (c : Code) (Q : State → Prop) (g : am_G) (n0 cE : Nat), am_Cx mi p R s m args meth c g n0 cE → ∀ (L S : List am_V) (st : am_S) (r : am_R), am_Ca g L S st → f L S st = some r → am_Sp mi p l e R s m args below meth c Q g n0 cE i L S st r
section AMS
variable {mi n0 cE i : Nat} {p : Program} {l : Launch} {e : Env} {R : Room} {s : State} {m : MethodId} {args : Array Value} {below : List Frame} {meth : Method} {c : Code} {Q : State → Prop} {g : am_G} {L S L' S' : List am_V} {st st' : am_S} {a : Nat}
theorem Sp0 (h : st'.1 ≤ cE → am_WW mi p l e R s m args below meth c Q g n0 (i + 1) L' S' st' → am_WW mi p l e R s m args below meth c Q g n0 i L S st) : am_Sp mi p l e R s m args below meth c Q g n0 cE i L S st (0, a, L', S', st') :=
  ⟨fun _ => h, fun q => absurd q (by show ¬ (0 : Nat) = 1; decide), fun q => absurd q (by show ¬ (0 : Nat) = 2; decide)⟩
theorem Sp1 (h : am_WW mi p l e R s m args below meth c Q g n0 a L' S' st' → am_WW mi p l e R s m args below meth c Q g n0 i L S st) : am_Sp mi p l e R s m args below meth c Q g n0 cE i L S st (1, a, L', S', st') :=
  ⟨fun q => absurd q (by show ¬ (1 : Nat) = 0; decide), fun _ => h, fun q => absurd q (by show ¬ (1 : Nat) = 2; decide)⟩
theorem Sp3 : am_Sp mi p l e R s m args below meth c Q g n0 cE i L S st (3, a, L', S', st') :=
  ⟨fun q => absurd q (by show ¬ (3 : Nat) = 0; decide), fun q => absurd q (by show ¬ (3 : Nat) = 1; decide), fun q => absurd q (by show ¬ (3 : Nat) = 2; decide)⟩
end AMS
theorem am_cat_vv (g : am_G) (v : am_V) (h : am_nl v = true) : (am_vv g v).category = 1 := by
  obtain ⟨t, x⟩ := v
  simp only [am_nl, bne_iff_ne] at h
  match t, h with
  | 0, _ => rfl
  | 1, h => exact absurd rfl h
  | t + 2, _ => rfl
theorem am_cat_v (g : am_G) (v : am_V) : (am_vv g v).category = am_cat v := by
  obtain ⟨t, x⟩ := v
  match t with
  | 0 => rfl
  | 1 => rfl
  | t + 2 => rfl
theorem am_cat_s (g : am_G) (S : List am_V) : ((am_vs g S).map fun v => v.category).sum = (S.map am_cat).sum := by
  congr 1
  simp only [am_vs, List.map_map]
  apply List.map_congr_left
  intro v _
  exact am_cat_v g v
/-- bin, one instruction: rows of the kit at any place -/
def am_dc (m i : Nat) (ins : Instr) (len : Nat) : Bool := decide (decode (am_by m) (am_pc m i) = .ok (ins, len)) && decide (am_pc m (i + 1) = am_pc m i + len)
theorem am_dc_iff {m i : Nat} {ins : Instr} {len : Nat} : am_dc m i ins len = true ↔ decode (am_by m) (am_pc m i) = .ok (ins, len) ∧ am_pc m (i + 1) = am_pc m i + len := by simp [am_dc]
def am_wd (i : Nat) (w : Cond) : Bool := decide (lw_tbl[i]? = some w) && goodWord w
theorem am_wd_in {i : Nat} {w : Cond} (h : am_wd i w = true) : w ∈ am_T := by
  simp only [am_wd, Bool.and_eq_true, decide_eq_true_eq] at h
  exact List.mem_filter.mpr ⟨List.mem_of_getElem? h.1, h.2⟩
theorem am_i3 (x : Int32) : Int32.ofInt x.toInt = x := Int32.ofInt_toInt x
theorem am_i6 (x : Int64) : Int64.ofInt x.toInt = x := Int64.ofInt_toInt x
theorem am_vI (g : am_G) (x : Int) (S : List am_V) : am_vs g ((0, x) :: S) = .int (Int32.ofInt x) :: am_vs g S := rfl
theorem am_vJ (g : am_G) (x : Int) (S : List am_V) : am_vs g ((1, x) :: S) = .long (Int64.ofInt x) :: am_vs g S := rfl
theorem am_vP (g : am_G) (x : Int) (S : List am_V) : am_vs g ((2, x) :: S) = .ref (if x < 0 then g.2.2.2.1 else g.1 + x.toNat) :: am_vs g S := rfl
theorem am_vP0 (g : am_G) {x : Int} (S : List am_V) (h : 0 ≤ x) : am_vs g ((2, x) :: S) = .ref (g.1 + x.toNat) :: am_vs g S := by
  rw [am_vP, if_neg (by omega)]
theorem am_W_size {p : Program} {l : Launch} {e : Env} {R : Room} {s : State} {m : MethodId} {args : Array Value} {below : List Frame} {meth : Method} {c : Code} {H : Heap} {locs : List Loc} {slots n0 : Nat} {Q : State → Prop} {f : JFrame} {g : am_G} {st : am_S} (hsz : s.heap.size = g.1 + n0) (hn : n0 ≤ st.1) (hP : va_P g.2.1 vwCl (am_cv g st) H) (hS : va_S (fun q => g.1 ≤ q) s.heap H locs)
    (k : H.size = g.1 + st.1 → W p l e R s m args below meth c H locs (st.1 - n0) slots Q f) : W p l e R s m args below meth c H locs (st.1 - n0) slots Q f := by
  intro T hT X
  refine k ?_ T hT X
  have h1 : T.heap.size ≤ s.heap.size + (st.1 - n0) := X.same.2.2.1
  rw [hT] at h1
  have h2 : g.1 + st.1 ≤ H.size := by
    by_cases h : st.1 = n0
    · have := hS.1
      omega
    · have := (hP (st.1 - 1) _ (am_cv_at (by omega))).lt
      dsimp only at this
      omega
  omega
end
section
theorem LH_ll {g : am_G} {ls : Array Slot} {nL : Nat} {L : List am_V} (h : am_LH g ls nL L) : lv_has ls nL ((List.range L.length).filterMap (fun j => match L[j]? with | some v => if v.1 < 3 then some (j, am_vv g v) else none | none => none)) := by
  refine ⟨h.1, h.2.1, fun q hq => ?_⟩
  obtain ⟨j, -, hj⟩ := List.mem_filterMap.mp hq
  cases hv : L[j]? with
  | none => rw [hv] at hj; cases hj
  | some v =>
    rw [hv] at hj
    dsimp only at hj
    split at hj
    · next h3 =>
      cases hj
      exact h.2.2.2 j v hv h3
    · cases hj
theorem LH_in {g : am_G} {L : List am_V} {j : Nat} {v : am_V} (hv : L[j]? = some v) (h3 : v.1 < 3) : (j, am_vv g v) ∈ (List.range L.length).filterMap (fun j => match L[j]? with | some v => if v.1 < 3 then some (j, am_vv g v) else none | none => none) := by
  refine List.mem_filterMap.mpr ⟨j, List.mem_range.mpr (List.getElem?_eq_some_iff.mp hv).1, ?_⟩
  rw [hv]
  dsimp only
  rw [if_pos h3]
theorem LH_set {g : am_G} {ls ls' : Array Slot} {nL k : Nat} {L : List am_V} {v : am_V} {lv : List (Nat × Value)} (h : am_LH g ls nL L) (hlv : ∀ (j : Nat) (u : am_V), L[j]? = some u → u.1 < 3 → (j, am_vv g u) ∈ lv)
    (h' : lv_has ls' nL ((k, am_vv g v) :: lv.filter (fun q => !(q.1 == k) && !(q.1 + 1 == k && q.2.category == 2)))) (hso : am_so L k = true) : am_LH g ls' nL (L.set k v) := by
  refine ⟨h'.1, h'.2.1, by rw [List.length_set]; exact h.2.2.1, fun j u hu h3 => ?_⟩
  by_cases hjk : j = k
  · subst hjk
    have hl : j < L.length := by
      have := (List.getElem?_eq_some_iff.mp hu).1
      rwa [List.length_set] at this
    rw [List.getElem?_set_self hl] at hu
    cases hu
    exact h'.2.2 _ List.mem_cons_self
  · rw [List.getElem?_set_ne (Ne.symm hjk)] at hu
    refine h'.2.2 (j, am_vv g u) (List.mem_cons_of_mem _ (List.mem_filter.mpr ⟨hlv j u hu h3, ?_⟩))
    have h1 : (j == k) = false := by simp [hjk]
    simp only [h1, Bool.not_false, Bool.true_and, Bool.not_eq_true', Bool.and_eq_false_iff]
    by_cases hk : j + 1 = k
    · right
      subst hk
      simp only [am_so, Bool.or_eq_true] at hso
      rcases hso with hso | hso
      · simp at hso
      · have : L.getD (j + 1 - 1) aX = u := by
          rw [Nat.add_sub_cancel, List.getD_eq_getElem?_getD, hu]
          rfl
        rw [this] at hso
        rw [am_cat_vv g u hso]
        rfl
    · left
      simp [hk]
def c_iconst (m i : Nat) (ps : List Int) : Bool := am_dc m i (.iconst (am_pa ps 0)) 1
def c_bpush (m i : Nat) (ps : List Int) : Bool := am_dc m i (.bipush (am_pa ps 0)) 2 && decide ((Int8.ofInt (am_pa ps 0)).toInt32 = Int32.ofInt (am_pa ps 0))
def c_spush (m i : Nat) (ps : List Int) : Bool := am_dc m i (.sipush (am_pa ps 0)) 3 && decide ((Int16.ofInt (am_pa ps 0)).toInt32 = Int32.ofInt (am_pa ps 0))
def c_ldc (m i : Nat) (ps : List Int) : Bool := am_dc m i (.ldc (am_pa ps 1).toNat) 2 && am_wd (am_pa ps 2).toNat (.constant (am_yn m).cls (am_pa ps 1).toNat (Int32.ofInt (am_pa ps 0)))
def c_ldcw (m i : Nat) (ps : List Int) : Bool := am_dc m i (.ldc_w (am_pa ps 1).toNat) 3 && am_wd (am_pa ps 2).toNat (.constant (am_yn m).cls (am_pa ps 1).toNat (Int32.ofInt (am_pa ps 0)))
def c_lconst (m i : Nat) (ps : List Int) : Bool := am_dc m i (.lconst (Fin.ofNat 2 (am_pa ps 0).toNat)) 1 && decide (Int64.ofNat ((Fin.ofNat 2 (am_pa ps 0).toNat : Fin 2) : Nat) = Int64.ofInt (am_pa ps 0))
def c_ldc2 (m i : Nat) (ps : List Int) : Bool := am_dc m i (.ldc2_w (am_pa ps 1).toNat) 3 && am_wd (am_pa ps 2).toNat (.constantLong (am_yn m).cls (am_pa ps 1).toNat (Int64.ofInt (am_pa ps 0)))
theorem g_iconst {mi i : Nat} {ps : List Int} (h : c_iconst mi i ps = true) : am_Go mi i (s_cst ps) := by
  intro p l e R s m args below meth c Q g n0 cE C L S st r hc hf
  obtain ⟨hx, hb, -⟩ := C
  simp only [c_iconst, am_dc_iff] at h
  unfold s_cst am_nx at hf
  cases hf
  refine Sp0 (fun _ K ls H locs hl hP hS hn => ?_)
  have K := K ls H locs hl hP hS hn
  rw [h.2] at K
  exact lv_iconst hx hb h.1 rfl K
theorem g_bpush {mi i : Nat} {ps : List Int} (h : c_bpush mi i ps = true) : am_Go mi i (s_cst ps) := by
  intro p l e R s m args below meth c Q g n0 cE C L S st r hc hf
  obtain ⟨hx, hb, -⟩ := C
  simp only [c_bpush, Bool.and_eq_true, am_dc_iff, decide_eq_true_eq] at h
  unfold s_cst am_nx at hf
  cases hf
  refine Sp0 (fun _ K ls H locs hl hP hS hn => ?_)
  have K := K ls H locs hl hP hS hn
  rw [h.1.2] at K
  exact lv_bipush hx hb h.1.1 h.2 K
theorem g_spush {mi i : Nat} {ps : List Int} (h : c_spush mi i ps = true) : am_Go mi i (s_cst ps) := by
  intro p l e R s m args below meth c Q g n0 cE C L S st r hc hf
  obtain ⟨hx, hb, -⟩ := C
  simp only [c_spush, Bool.and_eq_true, am_dc_iff, decide_eq_true_eq] at h
  unfold s_cst am_nx at hf
  cases hf
  refine Sp0 (fun _ K ls H locs hl hP hS hn => ?_)
  have K := K ls H locs hl hP hS hn
  rw [h.1.2] at K
  exact lv_sipush hx hb h.1.1 h.2 K
theorem g_ldc {mi i : Nat} {ps : List Int} (h : c_ldc mi i ps = true) : am_Go mi i (s_cst ps) := by
  intro p l e R s m args below meth c Q g n0 cE C L S st r hc hf
  obtain ⟨hx, hb, hml, hown, hts, -⟩ := C
  simp only [c_ldc, Bool.and_eq_true, am_dc_iff] at h
  unfold s_cst am_nx at hf
  cases hf
  refine Sp0 (fun _ K ls H locs hl hP hS hn => ?_)
  have K := K ls H locs hl hP hS hn
  rw [h.1.2] at K
  exact lv_ldc hx hb hown (hts _ (am_wd_in h.2)) h.1.1 K
theorem g_ldcw {mi i : Nat} {ps : List Int} (h : c_ldcw mi i ps = true) : am_Go mi i (s_cst ps) := by
  intro p l e R s m args below meth c Q g n0 cE C L S st r hc hf
  obtain ⟨hx, hb, hml, hown, hts, -⟩ := C
  simp only [c_ldcw, Bool.and_eq_true, am_dc_iff] at h
  unfold s_cst am_nx at hf
  cases hf
  refine Sp0 (fun _ K ls H locs hl hP hS hn => ?_)
  have K := K ls H locs hl hP hS hn
  rw [h.1.2] at K
  exact lv_ldcw hx hb hown (hts _ (am_wd_in h.2)) h.1.1 K
theorem g_lconst {mi i : Nat} {ps : List Int} (h : c_lconst mi i ps = true) : am_Go mi i (s_lcst ps) := by
  intro p l e R s m args below meth c Q g n0 cE C L S st r hc hf
  obtain ⟨hx, hb, -⟩ := C
  simp only [c_lconst, Bool.and_eq_true, am_dc_iff, decide_eq_true_eq] at h
  unfold s_lcst am_nx at hf
  cases hf
  refine Sp0 (fun _ K ls H locs hl hP hS hn => ?_)
  have K := K ls H locs hl hP hS hn
  rw [h.1.2] at K
  exact lv_lconst hx hb h.1.1 h.2 K
theorem g_ldc2 {mi i : Nat} {ps : List Int} (h : c_ldc2 mi i ps = true) : am_Go mi i (s_lcst ps) := by
  intro p l e R s m args below meth c Q g n0 cE C L S st r hc hf
  obtain ⟨hx, hb, hml, hown, hts, -⟩ := C
  simp only [c_ldc2, Bool.and_eq_true, am_dc_iff] at h
  unfold s_lcst am_nx at hf
  cases hf
  refine Sp0 (fun _ K ls H locs hl hP hS hn => ?_)
  have K := K ls H locs hl hP hS hn
  rw [h.1.2] at K
  exact lv_ldc2 hx hb hown (hts _ (am_wd_in h.2)) h.1.1 K
def c_loc (mkn : Fin 4 → Instr) (mk : Nat → Instr) (m i : Nat) (ps : List Int) : Bool := if am_pa ps 1 = 1 then decide ((am_pa ps 0).toNat < 4) && am_dc m i (mkn (Fin.ofNat 4 (am_pa ps 0).toNat)) 1 else am_dc m i (mk (am_pa ps 0).toNat) 2
theorem c_loc_or {mkn : Fin 4 → Instr} {mk : Nat → Instr} {m i : Nat} {ps : List Int} (h : c_loc mkn mk m i ps = true) : (((Fin.ofNat 4 (am_pa ps 0).toNat : Fin 4) : Nat) = (am_pa ps 0).toNat ∧ decode (am_by m) (am_pc m i) = .ok (mkn (Fin.ofNat 4 (am_pa ps 0).toNat), 1) ∧ am_pc m (i + 1) = am_pc m i + 1) ∨ (decode (am_by m) (am_pc m i) = .ok (mk (am_pa ps 0).toNat, 2) ∧ am_pc m (i + 1) = am_pc m i + 2) := by
  unfold c_loc at h
  split at h
  · simp only [Bool.and_eq_true, decide_eq_true_eq, am_dc_iff] at h
    exact Or.inl ⟨Nat.mod_eq_of_lt h.1, h.2⟩
  · rw [am_dc_iff] at h
    exact Or.inr h
theorem g_ild {mi i : Nat} {ps : List Int} (h : c_loc .iload_n .iload mi i ps = true) : am_Go mi i (s_ld 0 ps) := by
  intro p l e R s m args below meth c Q g n0 cE C L S st r hc hf
  obtain ⟨hx, hb, -⟩ := C
  unfold s_ld at hf
  split at hf
  · next v hv =>
    split at hf
    · next ht =>
      obtain ⟨t, x⟩ := v
      dsimp only at ht
      subst ht
      unfold am_nx at hf
      cases hf
      refine Sp0 (fun _ K ls H locs hl hP hS hn => ?_)
      have K := K ls H locs hl hP hS hn
      have hs := hl.2.2.2 _ _ hv (by simp)
      rcases c_loc_or h with ⟨h1, h2, h3⟩ | ⟨h2, h3⟩
      · rw [h3] at K
        exact lv_iload_n hx hb h2 h1 hs K
      · rw [h3] at K
        exact lv_iload hx hb h2 hs K
    · cases hf
  · cases hf
theorem g_ald {mi i : Nat} {ps : List Int} (h : c_loc .aload_n .aload mi i ps = true) : am_Go mi i (s_ld 2 ps) := by
  intro p l e R s m args below meth c Q g n0 cE C L S st r hc hf
  obtain ⟨hx, hb, -⟩ := C
  unfold s_ld at hf
  split at hf
  · next v hv =>
    split at hf
    · next ht =>
      obtain ⟨t, x⟩ := v
      dsimp only at ht
      subst ht
      unfold am_nx at hf
      cases hf
      refine Sp0 (fun _ K ls H locs hl hP hS hn => ?_)
      have K := K ls H locs hl hP hS hn
      have hs := hl.2.2.2 _ _ hv (by simp)
      rcases c_loc_or h with ⟨h1, h2, h3⟩ | ⟨h2, h3⟩
      · rw [h3] at K
        exact lv_aload_n hx hb h2 h1 hs K
      · rw [h3] at K
        exact lv_aload hx hb h2 hs K
    · cases hf
  · cases hf
theorem g_lld {mi i : Nat} {ps : List Int} (h : c_loc .lload_n .lload mi i ps = true) : am_Go mi i (s_ld 1 ps) := by
  intro p l e R s m args below meth c Q g n0 cE C L S st r hc hf
  obtain ⟨hx, hb, -⟩ := C
  unfold s_ld at hf
  split at hf
  · next v hv =>
    split at hf
    · next ht =>
      obtain ⟨t, x⟩ := v
      dsimp only at ht
      subst ht
      unfold am_nx at hf
      cases hf
      refine Sp0 (fun _ K ls H locs hl hP hS hn => ?_)
      have K := K ls H locs hl hP hS hn
      have hs := hl.2.2.2 _ _ hv (by simp)
      rcases c_loc_or h with ⟨h1, h2, h3⟩ | ⟨h2, h3⟩
      · rw [h3] at K
        exact lv_lload_n hx hb h2 h1 hs K
      · rw [h3] at K
        exact lv_lload hx hb h2 hs K
    · cases hf
  · cases hf
theorem g_ist {mi i : Nat} {ps : List Int} (h : c_loc .istore_n .istore mi i ps = true) : am_Go mi i (s_st 0 ps) := by
  intro p l e R s m args below meth c Q g n0 cE C L S st r hc hf
  obtain ⟨hx, hb, -⟩ := C
  unfold s_st at hf
  split at hf
  · next v S' =>
    split at hf
    · next ht =>
      obtain ⟨t, x⟩ := v
      dsimp only at ht
      obtain ⟨rfl, hlt, hso⟩ := ht
      unfold am_nx at hf
      cases hf
      refine Sp0 (fun _ K ls H locs hl hP hS hn => ?_)
      have hk : (am_pa ps 0).toNat < am_mx mi := by rw [← hl.2.2.1]; exact hlt
      have go : ∀ ls', lv_has ls' (am_mx mi) (((am_pa ps 0).toNat, Value.int (Int32.ofInt x)) :: ((List.range L.length).filterMap (fun j => match L[j]? with | some v => if v.1 < 3 then some (j, am_vv g v) else none | none => none)).filter (fun q => !(q.1 == (am_pa ps 0).toNat) && !(q.1 + 1 == (am_pa ps 0).toNat && q.2.category == 2))) → am_LH g ls' (am_mx mi) (L.set (am_pa ps 0).toNat (0, x)) := fun ls' hl' => LH_set (v := (0, x)) hl (fun j u hu h3 => LH_in hu h3) hl' hso
      rcases c_loc_or h with ⟨h1, h2, h3⟩ | ⟨h2, h3⟩
      · rw [show am_vs g ((0, x) :: S') = .int (Int32.ofInt x) :: am_vs g S' from rfl]
        refine lv_istore_n hx hb h2 h1 (LH_ll hl) hk rfl (fun ls' hl' => ?_)
        have K := K ls' H locs (go ls' hl') hP hS hn
        rw [h3] at K
        exact K
      · rw [show am_vs g ((0, x) :: S') = .int (Int32.ofInt x) :: am_vs g S' from rfl]
        refine lv_istore hx hb h2 (LH_ll hl) hk rfl (fun ls' hl' => ?_)
        have K := K ls' H locs (go ls' hl') hP hS hn
        rw [h3] at K
        exact K
    · cases hf
  · cases hf
theorem g_ast {mi i : Nat} {ps : List Int} (h : c_loc .astore_n .astore mi i ps = true) : am_Go mi i (s_st 2 ps) := by
  intro p l e R s m args below meth c Q g n0 cE C L S st r hc hf
  obtain ⟨hx, hb, -⟩ := C
  unfold s_st at hf
  split at hf
  · next v S' =>
    split at hf
    · next ht =>
      obtain ⟨t, x⟩ := v
      dsimp only at ht
      obtain ⟨rfl, hlt, hso⟩ := ht
      unfold am_nx at hf
      cases hf
      refine Sp0 (fun _ K ls H locs hl hP hS hn => ?_)
      have hk : (am_pa ps 0).toNat < am_mx mi := by rw [← hl.2.2.1]; exact hlt
      have go : ∀ ls', lv_has ls' (am_mx mi) (((am_pa ps 0).toNat, am_vv g (2, x)) :: ((List.range L.length).filterMap (fun j => match L[j]? with | some v => if v.1 < 3 then some (j, am_vv g v) else none | none => none)).filter (fun q => !(q.1 == (am_pa ps 0).toNat) && !(q.1 + 1 == (am_pa ps 0).toNat && q.2.category == 2))) → am_LH g ls' (am_mx mi) (L.set (am_pa ps 0).toNat (2, x)) := fun ls' hl' => LH_set (v := (2, x)) hl (fun j u hu h3 => LH_in hu h3) hl' hso
      rcases c_loc_or h with ⟨h1, h2, h3⟩ | ⟨h2, h3⟩
      · rw [am_vP]
        refine lv_astore_n hx hb h2 h1 (LH_ll hl) hk rfl (fun ls' hl' => ?_)
        have K := K ls' H locs (go ls' hl') hP hS hn
        rw [h3] at K
        exact K
      · rw [am_vP]
        refine lv_astore hx hb h2 (LH_ll hl) hk rfl (fun ls' hl' => ?_)
        have K := K ls' H locs (go ls' hl') hP hS hn
        rw [h3] at K
        exact K
    · cases hf
  · cases hf
def c_inc (m i : Nat) (ps : List Int) : Bool := am_dc m i (.iinc (am_pa ps 0).toNat (am_pa ps 1)) 3
theorem g_inc {mi i : Nat} {ps : List Int} (h : c_inc mi i ps = true) : am_Go mi i (s_inc ps) := by
  intro p l e R s m args below meth c Q g n0 cE C L S st r hc hf
  obtain ⟨hx, hb, -⟩ := C
  simp only [c_inc, am_dc_iff] at h
  unfold s_inc at hf
  split at hf
  · next v hv =>
    split at hf
    · next ht =>
      obtain ⟨t, x⟩ := v
      dsimp only at ht
      obtain ⟨rfl, hso⟩ := ht
      unfold am_nx at hf
      cases hf
      refine Sp0 (fun _ K ls H locs hl hP hS hn => ?_)
      have hk : (am_pa ps 0).toNat < am_mx mi := by rw [← hl.2.2.1]; exact (List.getElem?_eq_some_iff.mp hv).1
      have hl2 : lv_has ls (am_mx mi) (((am_pa ps 0).toNat, Value.int (Int32.ofInt x)) :: (List.range L.length).filterMap (fun j => match L[j]? with | some v => if v.1 < 3 then some (j, am_vv g v) else none | none => none)) := by
        have q := LH_ll hl
        refine ⟨q.1, q.2.1, fun z hz => ?_⟩
        rcases List.mem_cons.mp hz with e | e
        · rw [e]; exact hl.2.2.2 _ _ hv (by simp)
        · exact q.2.2 z e
      refine lv_iinc (k := 0) (v := Int32.ofInt (w3 (x + am_pa ps 1))) hx hb h.1 hl2 rfl ?_ hk rfl (fun ls' hl' => ?_)
      · unfold w3
        rw [am_i3, Int32.ofInt_add]
      · have K := K ls' H locs (LH_set (v := (0, w3 (x + am_pa ps 1))) hl (fun j u hu h3 => List.mem_cons_of_mem _ (LH_in hu h3)) hl' hso) hP hS hn
        rw [h.2] at K
        exact K
    · cases hf
  · cases hf
end
section
section AMB
variable {mi i : Nat}
theorem g_bin {f : Int32 → Int32 → Int32} {ins : Instr} (hd : am_dc mi i ins 1 = true)
    (row : ∀ {p : Program} {l : Launch} {e : Env} {R : Room} {s : State} {m : MethodId} {args : Array Value} {below : List Frame} {meth : Method} {c : Code} {H : Heap} {locs : List Loc} {cells slots : Nat} {Q : State → Prop} {ls : Array Slot} {rest : List Value} {x y : Int32}, p.tables.exec = Jvm.exec → c.code = am_by mi → decode (am_by mi) (am_pc mi i) = .ok (ins, 1) → W p l e R s m args below meth c H locs cells slots Q (F0 m (am_pc mi i + 1) ls (.int (f x y) :: rest)) → W p l e R s m args below meth c H locs cells slots Q (F0 m (am_pc mi i) ls (.int y :: .int x :: rest))) : am_Go mi i (s_bin f) := by
  intro p l e R s m args below meth c Q g n0 cE C L S st r hc hf
  obtain ⟨hx, hb, -⟩ := C
  rw [am_dc_iff] at hd
  unfold s_bin at hf
  split at hf
  · unfold am_nx at hf
    cases hf
    refine Sp0 (fun _ K ls H locs hl hP hS hn => ?_)
    have K := K ls H locs hl hP hS hn
    rw [hd.2, am_vI, am_i3] at K
    exact row hx hb hd.1 K
  · cases hf
theorem g_bin0 {f : Int32 → Int32 → Int32} {ins : Instr} (hd : am_dc mi i ins 1 = true)
    (row : ∀ {p : Program} {l : Launch} {e : Env} {R : Room} {s : State} {m : MethodId} {args : Array Value} {below : List Frame} {meth : Method} {c : Code} {H : Heap} {locs : List Loc} {cells slots : Nat} {Q : State → Prop} {ls : Array Slot} {rest : List Value} {x y : Int32}, p.tables.exec = Jvm.exec → c.code = am_by mi → decode (am_by mi) (am_pc mi i) = .ok (ins, 1) → ¬ y = 0 → W p l e R s m args below meth c H locs cells slots Q (F0 m (am_pc mi i + 1) ls (.int (f x y) :: rest)) → W p l e R s m args below meth c H locs cells slots Q (F0 m (am_pc mi i) ls (.int y :: .int x :: rest))) : am_Go mi i (s_bin0 f) := by
  intro p l e R s m args below meth c Q g n0 cE C L S st r hc hf
  obtain ⟨hx, hb, -⟩ := C
  rw [am_dc_iff] at hd
  unfold s_bin0 at hf
  split at hf
  · next b a S' =>
    split at hf
    · cases hf
    · next hb0 =>
      unfold am_nx at hf
      cases hf
      refine Sp0 (fun _ K ls H locs hl hP hS hn => ?_)
      have K := K ls H locs hl hP hS hn
      rw [hd.2, am_vI, am_i3] at K
      refine row hx hb hd.1 (fun z => hb0 ?_) K
      have := congrArg Int32.toInt z
      rw [o3 ((Ca_hd hc).1 rfl)] at this
      exact this
  · cases hf
theorem g_un {f : Int32 → Int32} {ins : Instr} (hd : am_dc mi i ins 1 = true)
    (row : ∀ {p : Program} {l : Launch} {e : Env} {R : Room} {s : State} {m : MethodId} {args : Array Value} {below : List Frame} {meth : Method} {c : Code} {H : Heap} {locs : List Loc} {cells slots : Nat} {Q : State → Prop} {ls : Array Slot} {rest : List Value} {x : Int32}, p.tables.exec = Jvm.exec → c.code = am_by mi → decode (am_by mi) (am_pc mi i) = .ok (ins, 1) → W p l e R s m args below meth c H locs cells slots Q (F0 m (am_pc mi i + 1) ls (.int (f x) :: rest)) → W p l e R s m args below meth c H locs cells slots Q (F0 m (am_pc mi i) ls (.int x :: rest))) : am_Go mi i (s_un f) := by
  intro p l e R s m args below meth c Q g n0 cE C L S st r hc hf
  obtain ⟨hx, hb, -⟩ := C
  rw [am_dc_iff] at hd
  unfold s_un at hf
  split at hf
  · unfold am_nx at hf
    cases hf
    refine Sp0 (fun _ K ls H locs hl hP hS hn => ?_)
    have K := K ls H locs hl hP hS hn
    rw [hd.2, am_vI, am_i3] at K
    exact row hx hb hd.1 K
  · cases hf
theorem g_lbin {f : Int64 → Int64 → Int64} {ins : Instr} (hd : am_dc mi i ins 1 = true)
    (row : ∀ {p : Program} {l : Launch} {e : Env} {R : Room} {s : State} {m : MethodId} {args : Array Value} {below : List Frame} {meth : Method} {c : Code} {H : Heap} {locs : List Loc} {cells slots : Nat} {Q : State → Prop} {ls : Array Slot} {rest : List Value} {x y : Int64}, p.tables.exec = Jvm.exec → c.code = am_by mi → decode (am_by mi) (am_pc mi i) = .ok (ins, 1) → W p l e R s m args below meth c H locs cells slots Q (F0 m (am_pc mi i + 1) ls (.long (f x y) :: rest)) → W p l e R s m args below meth c H locs cells slots Q (F0 m (am_pc mi i) ls (.long y :: .long x :: rest))) : am_Go mi i (s_lbin f) := by
  intro p l e R s m args below meth c Q g n0 cE C L S st r hc hf
  obtain ⟨hx, hb, -⟩ := C
  rw [am_dc_iff] at hd
  unfold s_lbin at hf
  split at hf
  · unfold am_nx at hf
    cases hf
    refine Sp0 (fun _ K ls H locs hl hP hS hn => ?_)
    have K := K ls H locs hl hP hS hn
    rw [hd.2, am_vJ, am_i6] at K
    exact row hx hb hd.1 K
  · cases hf
theorem g_lsh {f : Int64 → Int32 → Int64} {ins : Instr} (hd : am_dc mi i ins 1 = true)
    (row : ∀ {p : Program} {l : Launch} {e : Env} {R : Room} {s : State} {m : MethodId} {args : Array Value} {below : List Frame} {meth : Method} {c : Code} {H : Heap} {locs : List Loc} {cells slots : Nat} {Q : State → Prop} {ls : Array Slot} {rest : List Value} {x : Int64} {y : Int32}, p.tables.exec = Jvm.exec → c.code = am_by mi → decode (am_by mi) (am_pc mi i) = .ok (ins, 1) → W p l e R s m args below meth c H locs cells slots Q (F0 m (am_pc mi i + 1) ls (.long (f x y) :: rest)) → W p l e R s m args below meth c H locs cells slots Q (F0 m (am_pc mi i) ls (.int y :: .long x :: rest))) : am_Go mi i (s_lsh f) := by
  intro p l e R s m args below meth c Q g n0 cE C L S st r hc hf
  obtain ⟨hx, hb, -⟩ := C
  rw [am_dc_iff] at hd
  unfold s_lsh at hf
  split at hf
  · unfold am_nx at hf
    cases hf
    refine Sp0 (fun _ K ls H locs hl hP hS hn => ?_)
    have K := K ls H locs hl hP hS hn
    rw [hd.2, am_vJ, am_i6] at K
    exact row hx hb hd.1 K
  · cases hf
theorem g_lcmp (hd : am_dc mi i .lcmp 1 = true) : am_Go mi i s_lcmp := by
  intro p l e R s m args below meth c Q g n0 cE C L S st r hc hf
  obtain ⟨hx, hb, -⟩ := C
  rw [am_dc_iff] at hd
  unfold s_lcmp at hf
  split at hf
  · unfold am_nx at hf
    cases hf
    refine Sp0 (fun _ K ls H locs hl hP hS hn => ?_)
    have K := K ls H locs hl hP hS hn
    rw [hd.2, am_vI, am_i3] at K
    exact W.lcmp hx hb hd.1 K
  · cases hf
theorem g_i2l (hd : am_dc mi i .i2l 1 = true) : am_Go mi i s_i2l := by
  intro p l e R s m args below meth c Q g n0 cE C L S st r hc hf
  obtain ⟨hx, hb, -⟩ := C
  rw [am_dc_iff] at hd
  unfold s_i2l at hf
  split at hf
  · unfold am_nx at hf
    cases hf
    refine Sp0 (fun _ K ls H locs hl hP hS hn => ?_)
    have K := K ls H locs hl hP hS hn
    rw [hd.2, am_vJ, am_i6] at K
    exact lv_i2l hx hb hd.1 rfl K
  · cases hf
theorem g_l2i (hd : am_dc mi i .l2i 1 = true) : am_Go mi i s_l2i := by
  intro p l e R s m args below meth c Q g n0 cE C L S st r hc hf
  obtain ⟨hx, hb, -⟩ := C
  rw [am_dc_iff] at hd
  unfold s_l2i at hf
  split at hf
  · unfold am_nx at hf
    cases hf
    refine Sp0 (fun _ K ls H locs hl hP hS hn => ?_)
    have K := K ls H locs hl hP hS hn
    rw [hd.2, am_vI, am_i3] at K
    exact lv_l2i hx hb hd.1 rfl K
  · cases hf
theorem g_pop (hd : am_dc mi i .pop 1 = true) : am_Go mi i s_pop := by
  intro p l e R s m args below meth c Q g n0 cE C L S st r hc hf
  obtain ⟨hx, hb, -⟩ := C
  rw [am_dc_iff] at hd
  unfold s_pop at hf
  split at hf
  · split at hf
    · next hv =>
      unfold am_nx at hf
      cases hf
      refine Sp0 (fun _ K ls H locs hl hP hS hn => ?_)
      have K := K ls H locs hl hP hS hn
      rw [hd.2] at K
      exact lv_pop hx hb hd.1 (am_cat_vv g _ hv) K
    · cases hf
  · cases hf
theorem g_dup (hd : am_dc mi i .dup 1 = true) : am_Go mi i s_dup := by
  intro p l e R s m args below meth c Q g n0 cE C L S st r hc hf
  obtain ⟨hx, hb, -⟩ := C
  rw [am_dc_iff] at hd
  unfold s_dup at hf
  split at hf
  · split at hf
    · next hv =>
      unfold am_nx at hf
      cases hf
      refine Sp0 (fun _ K ls H locs hl hP hS hn => ?_)
      have K := K ls H locs hl hP hS hn
      rw [hd.2] at K
      exact lv_dup hx hb hd.1 (am_cat_vv g _ hv) K
    · cases hf
  · cases hf
theorem g_dup2 (hd : am_dc mi i .dup2 1 = true) : am_Go mi i s_dup2 := by
  intro p l e R s m args below meth c Q g n0 cE C L S st r hc hf
  obtain ⟨hx, hb, -⟩ := C
  rw [am_dc_iff] at hd
  unfold s_dup2 at hf
  split at hf
  · split at hf
    · next hv =>
      unfold am_nx at hf
      cases hf
      refine Sp0 (fun _ K ls H locs hl hP hS hn => ?_)
      have K := K ls H locs hl hP hS hn
      rw [hd.2] at K
      exact lv_dup2_11 hx hb hd.1 (am_cat_vv g _ hv.1) (am_cat_vv g _ hv.2) K
    · cases hf
  · cases hf
def am_of (m i : Nat) (t : Int) : Int := (am_pc m t.toNat : Int) - (am_pc m i : Int)
theorem am_of_eq (m i : Nat) (t : Int) : (am_pc m i : Int) + am_of m i t = (am_pc m t.toNat : Int) := by unfold am_of; omega
def am_cm (c : Int) : Jvm.ClassFile.Cond := if c = 0 then .eq else if c = 1 then .ne else if c = 2 then .lt else if c = 3 then .ge else if c = 4 then .gt else .le

def c_ifc (m i : Nat) (ps : List Int) : Bool := am_dc m i (.ifCond (am_cm (am_pa ps 0)) (am_of m i (am_pa ps 1))) 3
def c_icmp (m i : Nat) (ps : List Int) : Bool := am_dc m i (.if_icmp (am_cm (am_pa ps 0)) (am_of m i (am_pa ps 1))) 3
theorem am_e3 {a b : Int} (ha : r3 a) (hb : r3 b) : Int32.ofInt a = Int32.ofInt b ↔ a = b := ⟨fun h => by have := congrArg Int32.toInt h; rwa [o3 ha, o3 hb] at this, fun h => by rw [h]⟩
theorem am_l3 {a b : Int} (ha : r3 a) (hb : r3 b) : Int32.ofInt a < Int32.ofInt b ↔ a < b := by rw [Int32.lt_iff_toInt_lt, o3 ha, o3 hb]
theorem am_le3 {a b : Int} (ha : r3 a) (hb : r3 b) : Int32.ofInt a ≤ Int32.ofInt b ↔ a ≤ b := by rw [Int32.le_iff_toInt_le, o3 ha, o3 hb]
theorem r3_0 : r3 0 := ⟨by decide, by decide⟩
set_option maxHeartbeats 4000000 in
theorem g_icmp {ps : List Int} (h : c_icmp mi i ps = true) : am_Go mi i (s_icmp ps) := by
  intro p l e R s m args below meth c Q g n0 cE C L S st r hc hf
  obtain ⟨hx, hb, -⟩ := C
  simp only [c_icmp, am_dc_iff] at h
  unfold s_icmp at hf
  split at hf
  · next b a S' =>
    have ra : r3 a := (Ca_hd (Ca_tl hc)).1 rfl
    have rb : r3 b := (Ca_hd hc).1 rfl
    generalize am_pa ps 0 = cc at h hf
    unfold am_cm at h
    unfold am_cn at hf
    have fin : ∀ (P : Prop) [Decidable P], (if decide P = true then am_jp (am_pa ps 1) L S' st else am_nx L S' st) = some r → (∀ (ls : Array Slot) (H : Heap) (locs : List Loc), (P → W p l e R s m args below meth c H locs (st.1 - n0) (am_sl st.1 - am_sl n0) Q (F0 m (am_pc mi (am_pa ps 1).toNat) ls (am_vs g S'))) → (¬ P → W p l e R s m args below meth c H locs (st.1 - n0) (am_sl st.1 - am_sl n0) Q (F0 m (am_pc mi i + 3) ls (am_vs g S'))) → W p l e R s m args below meth c H locs (st.1 - n0) (am_sl st.1 - am_sl n0) Q (F0 m (am_pc mi i) ls (am_vs g ((0, b) :: (0, a) :: S')))) → am_Sp mi p l e R s m args below meth c Q g n0 cE i L ((0, b) :: (0, a) :: S') st r := by
      intro P _ hf row
      by_cases hp : P
      · rw [if_pos (decide_eq_true hp)] at hf
        unfold am_jp at hf
        cases hf
        exact Sp1 (fun K ls H locs hl hP hS hn => row ls H locs (fun _ => K ls H locs hl hP hS hn) (fun q => absurd hp q))
      · rw [if_neg (by simpa using hp)] at hf
        unfold am_nx at hf
        cases hf
        refine Sp0 (fun _ K ls H locs hl hP hS hn => row ls H locs (fun q => absurd q hp) (fun _ => ?_))
        have K := K ls H locs hl hP hS hn
        rw [h.2] at K
        exact K
    by_cases h0 : cc = 0
    · simp only [h0, if_true] at h hf
      refine fin _ hf (fun ls H locs k1 k2 => lv_icmp_eq hx hb h.1 (am_of_eq _ _ _) (fun q => k1 ((am_e3 ra rb).mp q)) (fun q => k2 (fun z => q ((am_e3 ra rb).mpr z))))
    by_cases h1 : cc = 1
    · simp only [h1, if_true, if_neg (show ¬ (1 : Int) = 0 by decide)] at h hf
      refine fin _ hf (fun ls H locs k1 k2 => lv_icmp_ne hx hb h.1 (am_of_eq _ _ _) (fun q => k1 (fun z => q ((am_e3 ra rb).mpr z))) (fun q => k2 (fun z => z ((am_e3 ra rb).mp q))))
    by_cases h2 : cc = 2
    · simp only [h2, if_true, if_neg (show ¬ (2 : Int) = 0 by decide), if_neg (show ¬ (2 : Int) = 1 by decide)] at h hf
      refine fin _ hf (fun ls H locs k1 k2 => lv_icmp_lt hx hb h.1 (am_of_eq _ _ _) (fun q => k1 ((am_l3 ra rb).mp q)) (fun q => k2 (fun z => q ((am_l3 ra rb).mpr z))))
    by_cases h3 : cc = 3
    · simp only [h3, if_true, if_neg (show ¬ (3 : Int) = 0 by decide), if_neg (show ¬ (3 : Int) = 1 by decide), if_neg (show ¬ (3 : Int) = 2 by decide)] at h hf
      refine fin _ hf (fun ls H locs k1 k2 => lv_icmp_ge hx hb h.1 (am_of_eq _ _ _) (fun q => k1 ((am_le3 rb ra).mp q)) (fun q => k2 (fun z => q ((am_le3 rb ra).mpr z))))
    by_cases h4 : cc = 4
    · simp only [h4, if_true, if_neg (show ¬ (4 : Int) = 0 by decide), if_neg (show ¬ (4 : Int) = 1 by decide), if_neg (show ¬ (4 : Int) = 2 by decide), if_neg (show ¬ (4 : Int) = 3 by decide)] at h hf
      refine fin _ hf (fun ls H locs k1 k2 => lv_icmp_gt hx hb h.1 (am_of_eq _ _ _) (fun q => k1 ((am_l3 rb ra).mp q)) (fun q => k2 (fun z => q ((am_l3 rb ra).mpr z))))
    · simp only [h0, h1, h2, h3, h4, if_false] at h hf
      refine fin _ hf (fun ls H locs k1 k2 => lv_icmp_le hx hb h.1 (am_of_eq _ _ _) (fun q => k1 ((am_le3 ra rb).mp q)) (fun q => k2 (fun z => q ((am_le3 ra rb).mpr z))))
  · cases hf

set_option maxHeartbeats 4000000 in
theorem g_ifc {ps : List Int} (h : c_ifc mi i ps = true) : am_Go mi i (s_ifc ps) := by
  intro p l e R s m args below meth c Q g n0 cE C L S st r hc hf
  obtain ⟨hx, hb, -⟩ := C
  simp only [c_ifc, am_dc_iff] at h
  unfold s_ifc at hf
  split at hf
  · next a S' =>
    have ra : r3 a := (Ca_hd hc).1 rfl
    have rb : r3 0 := r3_0
    generalize am_pa ps 0 = cc at h hf
    unfold am_cm at h
    unfold am_cn at hf
    have fin : ∀ (P : Prop) [Decidable P], (if decide P = true then am_jp (am_pa ps 1) L S' st else am_nx L S' st) = some r → (∀ (ls : Array Slot) (H : Heap) (locs : List Loc), (P → W p l e R s m args below meth c H locs (st.1 - n0) (am_sl st.1 - am_sl n0) Q (F0 m (am_pc mi (am_pa ps 1).toNat) ls (am_vs g S'))) → (¬ P → W p l e R s m args below meth c H locs (st.1 - n0) (am_sl st.1 - am_sl n0) Q (F0 m (am_pc mi i + 3) ls (am_vs g S'))) → W p l e R s m args below meth c H locs (st.1 - n0) (am_sl st.1 - am_sl n0) Q (F0 m (am_pc mi i) ls (am_vs g ((0, a) :: S')))) → am_Sp mi p l e R s m args below meth c Q g n0 cE i L ((0, a) :: S') st r := by
      intro P _ hf row
      by_cases hp : P
      · rw [if_pos (decide_eq_true hp)] at hf
        unfold am_jp at hf
        cases hf
        exact Sp1 (fun K ls H locs hl hP hS hn => row ls H locs (fun _ => K ls H locs hl hP hS hn) (fun q => absurd hp q))
      · rw [if_neg (by simpa using hp)] at hf
        unfold am_nx at hf
        cases hf
        refine Sp0 (fun _ K ls H locs hl hP hS hn => row ls H locs (fun q => absurd q hp) (fun _ => ?_))
        have K := K ls H locs hl hP hS hn
        rw [h.2] at K
        exact K
    by_cases h0 : cc = 0
    · simp only [h0, if_true] at h hf
      refine fin _ hf (fun ls H locs k1 k2 => lv_if_eq hx hb h.1 (am_of_eq _ _ _) (fun q => k1 ((am_e3 ra rb).mp q)) (fun q => k2 (fun z => q ((am_e3 ra rb).mpr z))))
    by_cases h1 : cc = 1
    · simp only [h1, if_true, if_neg (show ¬ (1 : Int) = 0 by decide)] at h hf
      refine fin _ hf (fun ls H locs k1 k2 => lv_if_ne hx hb h.1 (am_of_eq _ _ _) (fun q => k1 (fun z => q ((am_e3 ra rb).mpr z))) (fun q => k2 (fun z => z ((am_e3 ra rb).mp q))))
    by_cases h2 : cc = 2
    · simp only [h2, if_true, if_neg (show ¬ (2 : Int) = 0 by decide), if_neg (show ¬ (2 : Int) = 1 by decide)] at h hf
      refine fin _ hf (fun ls H locs k1 k2 => lv_if_lt hx hb h.1 (am_of_eq _ _ _) (fun q => k1 ((am_l3 ra rb).mp q)) (fun q => k2 (fun z => q ((am_l3 ra rb).mpr z))))
    by_cases h3 : cc = 3
    · simp only [h3, if_true, if_neg (show ¬ (3 : Int) = 0 by decide), if_neg (show ¬ (3 : Int) = 1 by decide), if_neg (show ¬ (3 : Int) = 2 by decide)] at h hf
      refine fin _ hf (fun ls H locs k1 k2 => lv_if_ge hx hb h.1 (am_of_eq _ _ _) (fun q => k1 ((am_le3 rb ra).mp q)) (fun q => k2 (fun z => q ((am_le3 rb ra).mpr z))))
    by_cases h4 : cc = 4
    · simp only [h4, if_true, if_neg (show ¬ (4 : Int) = 0 by decide), if_neg (show ¬ (4 : Int) = 1 by decide), if_neg (show ¬ (4 : Int) = 2 by decide), if_neg (show ¬ (4 : Int) = 3 by decide)] at h hf
      refine fin _ hf (fun ls H locs k1 k2 => lv_if_gt hx hb h.1 (am_of_eq _ _ _) (fun q => k1 ((am_l3 rb ra).mp q)) (fun q => k2 (fun z => q ((am_l3 rb ra).mpr z))))
    · simp only [h0, h1, h2, h3, h4, if_false] at h hf
      refine fin _ hf (fun ls H locs k1 k2 => lv_if_le hx hb h.1 (am_of_eq _ _ _) (fun q => k1 ((am_le3 ra rb).mp q)) (fun q => k2 (fun z => q ((am_le3 ra rb).mpr z))))
  · cases hf

def c_goto (m i : Nat) (ps : List Int) : Bool := decide (decode (am_by m) (am_pc m i) = .ok (.goto (am_of m i (am_pa ps 0)), 3))
theorem g_goto {ps : List Int} (h : c_goto mi i ps = true) : am_Go mi i (s_goto ps) := by
  intro p l e R s m args below meth c Q g n0 cE C L S st r hc hf
  obtain ⟨hx, hb, -⟩ := C
  simp only [c_goto, decide_eq_true_eq] at h
  unfold s_goto am_jp at hf
  cases hf
  exact Sp1 (fun K ls H locs hl hP hS hn => lv_goto hx hb h (am_of_eq _ _ _) (K ls H locs hl hP hS hn))
end AMB
end
section
def c_tsw (m i : Nat) (ps : List Int) : Bool := decide (3 ≤ ps.length) && decide (am_pa ps 1 - am_pa ps 0 + 1 = ((ps.length - 3 : Nat) : Int)) && (match decode (am_by m) (am_pc m i) with
  | .ok (.tableswitch d lo hi offs, _) => decide (d = am_of m i (am_pa ps 2)) && decide (lo = am_pa ps 0) && decide (hi = am_pa ps 1) && decide (offs.toList = (ps.drop 3).map (am_of m i))
  | _ => false)
theorem g_tsw {mi i : Nat} {ps : List Int} (h : c_tsw mi i ps = true) : am_Go mi i (s_tsw ps) := by
  intro p l e R s m args below meth c Q g n0 cE C L S st r hc hf
  obtain ⟨hx, hb, -⟩ := C
  simp only [c_tsw, Bool.and_eq_true, decide_eq_true_eq] at h
  obtain ⟨⟨hl3, hlen⟩, h⟩ := h
  split at h
  · next d lo hi offs ln hd =>
    simp only [Bool.and_eq_true, decide_eq_true_eq] at h
    obtain ⟨⟨⟨e1, e2⟩, e3⟩, e4⟩ := h
    unfold s_tsw at hf
    split at hf
    · next v S' =>
      have rv : r3 v := (Ca_hd hc).1 rfl
      split at hf
      · next hv =>
        unfold am_jp at hf
        cases hf
        refine Sp1 (fun K ls H locs hl hP hS hn => ?_)
        have hj : (v - am_pa ps 0).toNat < ps.length - 3 := by omega
        have ho : offs[((Int32.ofInt v).toInt - lo).toNat]? = some (am_of mi i (am_pa ps (3 + (v - am_pa ps 0).toNat))) := by
          have hj2 : 3 + (v - am_pa ps 0).toNat < ps.length := by omega
          rw [o3 rv, e2, ← Array.getElem?_toList, e4, List.getElem?_map, List.getElem?_drop, List.getElem?_eq_getElem hj2]
          rw [show am_pa ps (3 + (v - am_pa ps 0).toNat) = ps[3 + (v - am_pa ps 0).toNat] from by
            rw [am_pa, List.getD_eq_getElem?_getD, List.getElem?_eq_getElem hj2]
            rfl]
          rfl
        exact lv_tableIn hx hb hd (by rw [o3 rv, e2]; omega) (by rw [o3 rv, e3]; omega) ho (am_of_eq _ _ _) (K ls H locs hl hP hS hn)
      · next hv =>
        unfold am_jp at hf
        cases hf
        refine Sp1 (fun K ls H locs hl hP hS hn => ?_)
        exact lv_tableOut hx hb hd (by rw [o3 rv, e2, e3]; omega) (by rw [e1]; exact am_of_eq _ _ _) (K ls H locs hl hP hS hn)
    · cases hf
  · cases h
def am_pq (m i : Nat) : List Int → List (Int × Int)
  | k :: t :: r => (k, am_of m i t) :: am_pq m i r
  | _ => []
theorem am_lk_of (m i : Nat) (d v : Int) : ∀ (r : List Int), Op.lookupswitch.offset (am_pq m i r) (am_of m i d) v = am_of m i (am_lk r v d)
  | [] => rfl
  | [_] => rfl
  | k :: t :: r => by
    rw [am_pq, Op.lookupswitch.offset_cons, am_lk]
    split
    · rfl
    · exact am_lk_of m i d v r
def c_lsw (m i : Nat) (ps : List Int) : Bool := match decode (am_by m) (am_pc m i) with
  | .ok (.lookupswitch d qs, _) => decide (d = am_of m i (am_pa ps 0)) && decide (qs.toList = am_pq m i (ps.drop 1)) && (qs.toList.zip (qs.toList.drop 1)).all (fun (a, next) => a.1 < next.1)
  | _ => false
theorem g_lsw {mi i : Nat} {ps : List Int} (h : c_lsw mi i ps = true) : am_Go mi i (s_lsw ps) := by
  intro p l e R s m args below meth c Q g n0 cE C L S st r hc hf
  obtain ⟨hx, hb, -⟩ := C
  unfold c_lsw at h
  split at h
  · next d qs ln hd =>
    simp only [Bool.and_eq_true, decide_eq_true_eq] at h
    obtain ⟨⟨e1, e2⟩, e3⟩ := h
    unfold s_lsw at hf
    split at hf
    · next v S' =>
      have rv : r3 v := (Ca_hd hc).1 rfl
      unfold am_jp at hf
      cases hf
      refine Sp1 (fun K ls H locs hl hP hS hn => ?_)
      refine lv_lookup (off := am_of mi i (am_lk (ps.drop 1) v (am_pa ps 0))) hx hb hd e3 ?_ (am_of_eq _ _ _) (K ls H locs hl hP hS hn)
      rw [o3 rv, e2, e1]
      exact am_lk_of _ _ _ _ _
    · cases hf
  · cases h
theorem am_ly_sz : ∀ q ∈ am_LY, q.1 < 12 → (vwCl[q.1]?).map (fun r => r.2.2) = some q.2 := by decide +kernel
theorem am_lay_nat {c : Int} (h : 0 ≤ c) : am_lay ((c.toNat : Nat) : Int) = am_lay c := by rw [Int.toNat_of_nonneg h]
theorem am_lay_in {c : Int} {kd : Nat} (h : (am_lay c).1 = kd) (hk : kd < 90) : am_lay c ∈ am_LY := by
  unfold am_lay at h ⊢
  split at h
  · dsimp only at h; omega
  · next hc =>
    rw [if_neg hc]
    rw [List.getD_eq_getElem?_getD] at h ⊢
    cases hq : am_LY[c.toNat]? with
    | none => rw [hq] at h; dsimp only [Option.getD] at h; omega
    | some q => exact List.mem_of_getElem? hq
theorem am_lay_sz {c : Int} {ci : Nat} {C : String} {T : u_T} {N : Nat} (h : (am_lay c).1 = ci) (hk : ci < 12) (hc : vwCl[ci]? = some (C, T, N)) : (am_lay c).2 = N := by
  have := am_ly_sz _ (am_lay_in h (by omega)) (by omega)
  rw [h, hc] at this
  exact (Option.some.inj this).symm
theorem am_ce_o {g : am_G} {st : am_S} {c : Int} {ci : Nat} (h0 : 0 ≤ c) (h : (am_lay c).1 = ci) (hk : ci < 12) : am_ce g st c.toNat = .inr (ci, (List.range (am_lay c).2).map (fun k => am_fv g ci k (st.2.2 c k) (am_gr st.2.1 c k))) := by
  unfold am_ce
  rw [Int.toNat_of_nonneg h0, h, if_neg (by omega), if_neg (by omega), if_neg (by omega), if_neg (by omega)]
theorem am_ce_20 {g : am_G} {st : am_S} {c : Int} (h0 : 0 ≤ c) (h : (am_lay c).1 = 20) : am_ce g st c.toNat = .inl (g.2.2.1.1, (am_lay c).2, .inl (fun j => Int32.ofInt (st.2.2 c j))) := by
  unfold am_ce
  rw [Int.toNat_of_nonneg h0, if_pos h]
theorem am_ce_21 {g : am_G} {st : am_S} {c : Int} (h0 : 0 ≤ c) (h : (am_lay c).1 = 21) : am_ce g st c.toNat = .inl (g.2.2.1.2.1, (am_lay c).2, .inr (.inl (fun j => Int64.ofInt (st.2.2 c j)))) := by
  unfold am_ce
  rw [Int.toNat_of_nonneg h0, if_neg (by omega), if_pos h]
theorem am_ce_22 {g : am_G} {st : am_S} {c : Int} (h0 : 0 ≤ c) (h : (am_lay c).1 = 22) : am_ce g st c.toNat = .inl (g.2.2.1.2.2.1, (am_lay c).2, .inr (.inr (.inr (.inr (fun j => am_oR g (am_gr st.2.1 c j)))))) := by
  unfold am_ce
  rw [Int.toNat_of_nonneg h0, if_neg (by omega), if_neg (by omega), if_pos h]
theorem am_ce_23 {g : am_G} {st : am_S} {c : Int} (h0 : 0 ≤ c) (h : (am_lay c).1 = 23) : am_ce g st c.toNat = .inl (g.2.2.1.2.2.2, (am_lay c).2, .inr (.inr (.inr (.inr (fun j => am_oR g (am_gr st.2.1 c j)))))) := by
  unfold am_ce
  rw [Int.toNat_of_nonneg h0, if_neg (by omega), if_neg (by omega), if_neg (by omega), if_pos h]
def am_tyT (ci : Nat) : Nat → FieldType := match ci with
  | 0 => tyX0
  | 1 => tyX1
  | 2 => tyX2
  | 3 => tyX3
  | 4 => tyX4
  | 5 => tyX5
  | 6 => tyX6
  | 7 => tyX7
  | 8 => tyX8
  | 9 => tyX9
  | 10 => tyX10
  | _ => tyX11
theorem us_0 : ∀ w ∈ u_ws RX0 TX0 8, w ∈ am_T := by
  have h : u_ws RX0 TX0 8 = ([263, 265, 267, 269, 271, 273, 275, 277] : List Nat).filterMap (fun i => lw_tbl[i]?) := by decide +kernel
  have h2 : (u_ws RX0 TX0 8).all goodWord = true := by decide +kernel
  intro w hw
  have h3 := List.all_eq_true.mp h2 w hw
  rw [h] at hw
  obtain ⟨i, -, hi⟩ := List.mem_filterMap.mp hw
  exact List.mem_filter.mpr ⟨List.mem_of_getElem? hi, h3⟩
theorem us_1 : ∀ w ∈ u_ws RX1 TX1 5, w ∈ am_T := by
  have h : u_ws RX1 TX1 5 = ([379, 381, 383, 385, 387] : List Nat).filterMap (fun i => lw_tbl[i]?) := by decide +kernel
  have h2 : (u_ws RX1 TX1 5).all goodWord = true := by decide +kernel
  intro w hw
  have h3 := List.all_eq_true.mp h2 w hw
  rw [h] at hw
  obtain ⟨i, -, hi⟩ := List.mem_filterMap.mp hw
  exact List.mem_filter.mpr ⟨List.mem_of_getElem? hi, h3⟩
theorem us_2 : ∀ w ∈ u_ws RX2 TX2 8, w ∈ am_T := by
  have h : u_ws RX2 TX2 8 = ([121, 123, 125, 127, 129, 131, 133, 135] : List Nat).filterMap (fun i => lw_tbl[i]?) := by decide +kernel
  have h2 : (u_ws RX2 TX2 8).all goodWord = true := by decide +kernel
  intro w hw
  have h3 := List.all_eq_true.mp h2 w hw
  rw [h] at hw
  obtain ⟨i, -, hi⟩ := List.mem_filterMap.mp hw
  exact List.mem_filter.mpr ⟨List.mem_of_getElem? hi, h3⟩
theorem us_3 : ∀ w ∈ u_ws RX3 TX3 6, w ∈ am_T := by
  have h : u_ws RX3 TX3 6 = ([182, 184, 186, 188, 190, 192] : List Nat).filterMap (fun i => lw_tbl[i]?) := by decide +kernel
  have h2 : (u_ws RX3 TX3 6).all goodWord = true := by decide +kernel
  intro w hw
  have h3 := List.all_eq_true.mp h2 w hw
  rw [h] at hw
  obtain ⟨i, -, hi⟩ := List.mem_filterMap.mp hw
  exact List.mem_filter.mpr ⟨List.mem_of_getElem? hi, h3⟩
theorem us_4 : ∀ w ∈ u_ws RX4 TX4 10, w ∈ am_T := by
  have h : u_ws RX4 TX4 10 = ([346, 348, 350, 352, 354, 356, 358, 360, 362, 364] : List Nat).filterMap (fun i => lw_tbl[i]?) := by decide +kernel
  have h2 : (u_ws RX4 TX4 10).all goodWord = true := by decide +kernel
  intro w hw
  have h3 := List.all_eq_true.mp h2 w hw
  rw [h] at hw
  obtain ⟨i, -, hi⟩ := List.mem_filterMap.mp hw
  exact List.mem_filter.mpr ⟨List.mem_of_getElem? hi, h3⟩
theorem us_5 : ∀ w ∈ u_ws RX5 TX5 3, w ∈ am_T := by
  have h : u_ws RX5 TX5 3 = ([209, 211, 213] : List Nat).filterMap (fun i => lw_tbl[i]?) := by decide +kernel
  have h2 : (u_ws RX5 TX5 3).all goodWord = true := by decide +kernel
  intro w hw
  have h3 := List.all_eq_true.mp h2 w hw
  rw [h] at hw
  obtain ⟨i, -, hi⟩ := List.mem_filterMap.mp hw
  exact List.mem_filter.mpr ⟨List.mem_of_getElem? hi, h3⟩
theorem us_6 : ∀ w ∈ u_ws RX6 TX6 4, w ∈ am_T := by
  have h : u_ws RX6 TX6 4 = ([316, 318, 320, 322] : List Nat).filterMap (fun i => lw_tbl[i]?) := by decide +kernel
  have h2 : (u_ws RX6 TX6 4).all goodWord = true := by decide +kernel
  intro w hw
  have h3 := List.all_eq_true.mp h2 w hw
  rw [h] at hw
  obtain ⟨i, -, hi⟩ := List.mem_filterMap.mp hw
  exact List.mem_filter.mpr ⟨List.mem_of_getElem? hi, h3⟩
theorem us_7 : ∀ w ∈ u_ws RX7 TX7 3, w ∈ am_T := by
  have h : u_ws RX7 TX7 3 = ([290, 292, 294] : List Nat).filterMap (fun i => lw_tbl[i]?) := by decide +kernel
  have h2 : (u_ws RX7 TX7 3).all goodWord = true := by decide +kernel
  intro w hw
  have h3 := List.all_eq_true.mp h2 w hw
  rw [h] at hw
  obtain ⟨i, -, hi⟩ := List.mem_filterMap.mp hw
  exact List.mem_filter.mpr ⟨List.mem_of_getElem? hi, h3⟩
theorem us_8 : ∀ w ∈ u_ws RX8 TX8 2, w ∈ am_T := by
  have h : u_ws RX8 TX8 2 = ([153, 155] : List Nat).filterMap (fun i => lw_tbl[i]?) := by decide +kernel
  have h2 : (u_ws RX8 TX8 2).all goodWord = true := by decide +kernel
  intro w hw
  have h3 := List.all_eq_true.mp h2 w hw
  rw [h] at hw
  obtain ⟨i, -, hi⟩ := List.mem_filterMap.mp hw
  exact List.mem_filter.mpr ⟨List.mem_of_getElem? hi, h3⟩
theorem us_9 : ∀ w ∈ u_ws RX9 TX9 4, w ∈ am_T := by
  have h : u_ws RX9 TX9 4 = ([228, 230, 232, 234] : List Nat).filterMap (fun i => lw_tbl[i]?) := by decide +kernel
  have h2 : (u_ws RX9 TX9 4).all goodWord = true := by decide +kernel
  intro w hw
  have h3 := List.all_eq_true.mp h2 w hw
  rw [h] at hw
  obtain ⟨i, -, hi⟩ := List.mem_filterMap.mp hw
  exact List.mem_filter.mpr ⟨List.mem_of_getElem? hi, h3⟩
theorem us_10 : ∀ w ∈ u_ws RX10 TX10 11, w ∈ am_T := by
  have h : u_ws RX10 TX10 11 = ([401, 403, 405, 407, 409, 411, 413, 415, 417, 419, 421] : List Nat).filterMap (fun i => lw_tbl[i]?) := by decide +kernel
  have h2 : (u_ws RX10 TX10 11).all goodWord = true := by decide +kernel
  intro w hw
  have h3 := List.all_eq_true.mp h2 w hw
  rw [h] at hw
  obtain ⟨i, -, hi⟩ := List.mem_filterMap.mp hw
  exact List.mem_filter.mpr ⟨List.mem_of_getElem? hi, h3⟩
theorem us_11 : ∀ w ∈ u_ws RX11 TX11 19, w ∈ am_T := by
  have h : u_ws RX11 TX11 19 = ([1040, 1042, 1044, 1046, 1048, 1050, 1052, 1054, 1056, 1058, 1060, 1062, 1064, 1066, 1068, 1070, 1072, 1074, 1076] : List Nat).filterMap (fun i => lw_tbl[i]?) := by decide +kernel
  have h2 : (u_ws RX11 TX11 19).all goodWord = true := by decide +kernel
  intro w hw
  have h3 := List.all_eq_true.mp h2 w hw
  rw [h] at hw
  obtain ⟨i, -, hi⟩ := List.mem_filterMap.mp hw
  exact List.mem_filter.mpr ⟨List.mem_of_getElem? hi, h3⟩
theorem am_cl {ci : Nat} {C : String} {T : u_T} {N : Nat} (hc : vwCl[ci]? = some (C, T, N)) : (∀ w ∈ u_ws C T N, w ∈ am_T) ∧ (∀ k, k < N → parseFieldDescriptor (T k).2.2.1 = some (am_tyT ci k)) ∧ (∀ a, a < N → ∀ b, b < N → a ≠ b → (T a).2.1 ≠ (T b).2.1) := by
  match ci, hc with
  | 0, hc => cases hc; exact ⟨us_0, tyX0_ok, nmX0⟩
  | 1, hc => cases hc; exact ⟨us_1, tyX1_ok, nmX1⟩
  | 2, hc => cases hc; exact ⟨us_2, tyX2_ok, nmX2⟩
  | 3, hc => cases hc; exact ⟨us_3, tyX3_ok, nmX3⟩
  | 4, hc => cases hc; exact ⟨us_4, tyX4_ok, nmX4⟩
  | 5, hc => cases hc; exact ⟨us_5, tyX5_ok, nmX5⟩
  | 6, hc => cases hc; exact ⟨us_6, tyX6_ok, nmX6⟩
  | 7, hc => cases hc; exact ⟨us_7, tyX7_ok, nmX7⟩
  | 8, hc => cases hc; exact ⟨us_8, tyX8_ok, nmX8⟩
  | 9, hc => cases hc; exact ⟨us_9, tyX9_ok, nmX9⟩
  | 10, hc => cases hc; exact ⟨us_10, tyX10_ok, nmX10⟩
  | 11, hc => cases hc; exact ⟨us_11, tyX11_ok, nmX11⟩
  | n + 12, hc => simp [vwCl] at hc
/-- a field: its class by number, its place, the pool's index, the link's place in the tables -/
def c_fld (m : Nat) (ps : List Int) : Bool := decide ((am_pa ps 0).toNat < 12) && decide (0 ≤ am_pa ps 1) && (match vwCl[(am_pa ps 0).toNat]? with
  | some q => decide ((am_pa ps 1).toNat < q.2.2) && am_wd (am_pa ps 3).toNat (.fieldLink (am_yn m).cls (am_pa ps 2).toNat (q.2.1 (am_pa ps 1).toNat).1 (q.2.1 (am_pa ps 1).toNat).2.1 (q.2.1 (am_pa ps 1).toNat).2.2.1)
  | none => false)
theorem c_fld_of {m : Nat} {ps : List Int} (h : c_fld m ps = true) : ∃ (C : String) (T : u_T) (N : Nat), (am_pa ps 0).toNat < 12 ∧ 0 ≤ am_pa ps 1 ∧ vwCl[(am_pa ps 0).toNat]? = some (C, T, N) ∧ (am_pa ps 1).toNat < N ∧ Cond.fieldLink (am_yn m).cls (am_pa ps 2).toNat (T (am_pa ps 1).toNat).1 (T (am_pa ps 1).toNat).2.1 (T (am_pa ps 1).toNat).2.2.1 ∈ am_T := by
  simp only [c_fld, Bool.and_eq_true, decide_eq_true_eq] at h
  obtain ⟨⟨h1, h2⟩, h3⟩ := h
  split at h3
  · next q hq =>
    obtain ⟨C, T, N⟩ := q
    simp only [Bool.and_eq_true, decide_eq_true_eq] at h3
    exact ⟨C, T, N, h1, h2, hq, h3.1, am_wd_in h3.2⟩
  · cases h3
theorem am_fs_at {g : am_G} {st : am_S} {c : Int} {ci N k : Nat} (hk : k < N) : ((List.range N).map (fun k => am_fv g ci k (st.2.2 c k) (am_gr st.2.1 c k)))[k]? = some (am_fv g ci k (st.2.2 c k) (am_gr st.2.1 c k)) := by simp [hk]
def c_gI (m i : Nat) (ps : List Int) : Bool := am_dc m i (.getfield (am_pa ps 2).toNat) 3 && c_fld m ps && decide (am_ft (am_pa ps 0).toNat (am_pa ps 1).toNat ≠ 2)
theorem g_gI {mi i : Nat} {ps : List Int} (h : c_gI mi i ps = true) : am_Go mi i (s_gI ps) := by
  intro p l e R s m args below meth c Q g n0 cE C L S st r hc hf
  obtain ⟨hx, hb, hml, hown, hts, hini, hSB, hsz, -⟩ := C
  simp only [c_gI, Bool.and_eq_true, am_dc_iff, decide_eq_true_eq] at h
  obtain ⟨⟨hd, hfl⟩, hft⟩ := h
  obtain ⟨Cn, T, N, hci, hk0, hcl, hk, hlk⟩ := c_fld_of hfl
  unfold s_gI at hf
  split at hf
  · next cc S' =>
    split at hf
    · next his =>
      obtain ⟨i1, i2, i3⟩ := am_is_iff.mp his
      unfold am_nx at hf
      cases hf
      refine Sp0 (fun _ K ls H locs hl hP hS hn => ?_)
      have K := K ls H locs hl hP hS hn
      rw [hd.2] at K
      rw [am_vP0 _ _ i3]
      have he := am_cv_at (g := g) i1
      rw [am_ce_o i3 i2 hci, am_lay_sz i2 hci hcl] at he
      refine va_get (v := .int (Int32.ofInt (st.2.2 cc (am_pa ps 1)))) hx hb hts (am_cl hcl).1 hown hSB.1 hP cc.toNat he hcl (am_pa ps 1).toNat hk (hts _ hlk) (fun _ h9 => h9) ?_ hd.1 K
      rw [am_fs_at hk, am_fv, if_neg hft, Int.toNat_of_nonneg hk0]
    · cases hf
  · cases hf
def c_gR (m i : Nat) (ps : List Int) : Bool := am_dc m i (.getfield (am_pa ps 2).toNat) 3 && c_fld m ps && decide (am_ft (am_pa ps 0).toNat (am_pa ps 1).toNat = 2)
theorem g_gR {mi i : Nat} {ps : List Int} (h : c_gR mi i ps = true) : am_Go mi i (s_gR ps) := by
  intro p l e R s m args below meth c Q g n0 cE C L S st r hc hf
  obtain ⟨hx, hb, hml, hown, hts, hini, hSB, hsz, -⟩ := C
  simp only [c_gR, Bool.and_eq_true, am_dc_iff, decide_eq_true_eq] at h
  obtain ⟨⟨hd, hfl⟩, hft⟩ := h
  obtain ⟨Cn, T, N, hci, hk0, hcl, hk, hlk⟩ := c_fld_of hfl
  unfold s_gR at hf
  split at hf
  · next cc S' =>
    split at hf
    · next his =>
      obtain ⟨i1, i2, i3⟩ := am_is_iff.mp his.1
      have h0 := his.2
      unfold am_nx at hf
      cases hf
      refine Sp0 (fun _ K ls H locs hl hP hS hn => ?_)
      have K := K ls H locs hl hP hS hn
      rw [hd.2, am_vP0 _ _ h0] at K
      rw [am_vP0 _ _ i3]
      have he := am_cv_at (g := g) i1
      rw [am_ce_o i3 i2 hci, am_lay_sz i2 hci hcl] at he
      refine va_get hx hb hts (am_cl hcl).1 hown hSB.1 hP cc.toNat he hcl (am_pa ps 1).toNat hk (hts _ hlk) (fun _ h9 => h9) ?_ hd.1 K
      rw [am_fs_at hk, am_fv, if_pos hft, Int.toNat_of_nonneg hk0, am_oR, if_neg (by omega)]
      rfl
    · cases hf
  · cases hf
theorem am_fs_set {g : am_G} {st : am_S} {c v : Int} {ci N k : Nat} (hft : am_ft ci k ≠ 2) : ((List.range N).map (fun k => am_fv g ci k (st.2.2 c k) (am_gr st.2.1 c k))).set k (.int (Int32.ofInt v)) = (List.range N).map (fun j => am_fv g ci j (up st.2.2 c k v c j) (am_gr st.2.1 c j)) := by
  apply List.ext_getElem?
  intro j
  by_cases hj : j < N
  · by_cases hjk : j = k
    · subst hjk
      rw [List.getElem?_set_self (by simpa using hj)]
      simp [hj, am_fv, hft, up_s]
    · rw [List.getElem?_set_ne (Ne.symm hjk)]
      simp [hj, up_k (am_int_ne hjk)]
  · rw [List.getElem?_eq_none (by simp; omega), List.getElem?_eq_none (by simp; omega)]
theorem am_fs_setR {g : am_G} {st : am_S} {c v : Int} {ci N k : Nat} (hft : am_ft ci k = 2) (hv : 0 ≤ v) : ((List.range N).map (fun k => am_fv g ci k (st.2.2 c k) (am_gr st.2.1 c k))).set k (.ref (g.1 + v.toNat)) = (List.range N).map (fun j => am_fv g ci j (st.2.2 c j) (am_gr ((c, (k : Int), v) :: st.2.1) c j)) := by
  apply List.ext_getElem?
  intro j
  by_cases hj : j < N
  · by_cases hjk : j = k
    · subst hjk
      rw [List.getElem?_set_self (by simpa using hj)]
      simp only [List.getElem?_map, List.getElem?_range hj, Option.map_some, am_fv, hft, if_true, gr_s, am_oR, if_neg (show ¬ v < 0 by omega)]
      rfl
    · rw [List.getElem?_set_ne (Ne.symm hjk)]
      simp [hj, gr_k (am_int_ne hjk)]
  · rw [List.getElem?_eq_none (by simp; omega), List.getElem?_eq_none (by simp; omega)]
theorem am_ce_up {g : am_G} {st : am_S} {c k v : Int} (h0 : 0 ≤ c) (c' : Nat) (hc : c' ≠ c.toNat) : am_ce g (st.1, st.2.1, up st.2.2 c k v) c' = am_ce g st c' := by
  have : (c' : Int) ≠ c := by omega
  exact am_ce_h (by rw [up_ne this]) rfl
theorem am_ce_rf {g : am_G} {st : am_S} {c k v : Int} (h0 : 0 ≤ c) (c' : Nat) (hc : c' ≠ c.toNat) : am_ce g (st.1, (c, k, v) :: st.2.1, st.2.2) c' = am_ce g st c' := by
  have : (c' : Int) ≠ c := by omega
  exact am_ce_h rfl (by funext j; rw [gr_ne this])
theorem am_set_o {g : am_G} {st : am_S} {c k v : Int} {ci N : Nat} {C : String} {T : u_T} (i2 : (am_lay c).1 = ci) (i3 : 0 ≤ c) (hci : ci < 12) (hcl : vwCl[ci]? = some (C, T, N)) (hk0 : 0 ≤ k) (hft : am_ft ci k.toNat ≠ 2) :
    (am_cv g st).set c.toNat (g.1 + c.toNat, .inr (ci, ((List.range N).map (fun k => am_fv g ci k (st.2.2 c k) (am_gr st.2.1 c k))).set k.toNat (.int (Int32.ofInt v)))) = am_cv g (st.1, st.2.1, up st.2.2 c k v) := by
  have h := am_cv_set (g := g) (st := st) (st' := (st.1, st.2.1, up st.2.2 c k v)) (c := c.toNat) rfl (am_ce_up i3)
  rw [am_ce_o i3 i2 hci, am_lay_sz i2 hci hcl] at h
  rw [← h, am_fs_set hft, Int.toNat_of_nonneg hk0]
theorem am_set_r {g : am_G} {st : am_S} {c k v : Int} {ci N : Nat} {C : String} {T : u_T} (i2 : (am_lay c).1 = ci) (i3 : 0 ≤ c) (hci : ci < 12) (hcl : vwCl[ci]? = some (C, T, N)) (hk0 : 0 ≤ k) (hft : am_ft ci k.toNat = 2) (hv : 0 ≤ v) :
    (am_cv g st).set c.toNat (g.1 + c.toNat, .inr (ci, ((List.range N).map (fun k => am_fv g ci k (st.2.2 c k) (am_gr st.2.1 c k))).set k.toNat (.ref (g.1 + v.toNat)))) = am_cv g (st.1, (c, k, v) :: st.2.1, st.2.2) := by
  have h := am_cv_set (g := g) (st := st) (st' := (st.1, (c, k, v) :: st.2.1, st.2.2)) (c := c.toNat) rfl (am_ce_rf i3)
  rw [am_ce_o i3 i2 hci, am_lay_sz i2 hci hcl] at h
  rw [← h, am_fs_setR hft hv, Int.toNat_of_nonneg hk0]
theorem am_clamp {i : Int} (h : r3 i) : (Int32.ofInt i).toNatClampNeg = i.toNat := Int32.toNatClampNeg_ofInt_of_le h.1 h.2
theorem am_in {i : Int} {n : Nat} (h : r3 i) (h0 : 0 ≤ i) (h1 : i < (n : Int)) : vp_in (Int32.ofInt i) n := by
  rw [vp_in_iff, o3 h]
  exact ⟨h0, h1⟩
theorem am_set_20 {g : am_G} {st : am_S} {c i v : Int} (i2 : (am_lay c).1 = 20) (i3 : 0 ≤ c) (h0 : 0 ≤ i) :
    (am_cv g st).set c.toNat (g.1 + c.toNat, .inl (g.2.2.1.1, (am_lay c).2, .inl (upd (fun j => Int32.ofInt (st.2.2 c j)) i.toNat (Int32.ofInt v)))) = am_cv g (st.1, st.2.1, up st.2.2 c i v) := by
  have h := am_cv_set (g := g) (st := st) (st' := (st.1, st.2.1, up st.2.2 c i v)) (c := c.toNat) rfl (am_ce_up i3)
  rw [am_ce_20 i3 i2] at h
  rw [← h]
  congr 6
  funext j
  dsimp only
  by_cases hj : j = i.toNat
  · subst hj
    rw [pk_us, Int.toNat_of_nonneg h0, up_s]
  · rw [pk_un hj, up_k (by omega)]
theorem am_set_21 {g : am_G} {st : am_S} {c i v : Int} (i2 : (am_lay c).1 = 21) (i3 : 0 ≤ c) (h0 : 0 ≤ i) :
    (am_cv g st).set c.toNat (g.1 + c.toNat, .inl (g.2.2.1.2.1, (am_lay c).2, .inr (.inl (vp_updL (fun j => Int64.ofInt (st.2.2 c j)) i.toNat (Int64.ofInt v))))) = am_cv g (st.1, st.2.1, up st.2.2 c i v) := by
  have h := am_cv_set (g := g) (st := st) (st' := (st.1, st.2.1, up st.2.2 c i v)) (c := c.toNat) rfl (am_ce_up i3)
  rw [am_ce_21 i3 i2] at h
  rw [← h]
  congr 7
  funext j
  dsimp only
  by_cases hj : j = i.toNat
  · subst hj
    rw [pk_uLs, Int.toNat_of_nonneg h0, up_s]
  · rw [pk_uLn hj, up_k (by omega)]
theorem am_oR_up {g : am_G} {l : am_L} {c i v : Int} (h0 : 0 ≤ i) (hv : 0 ≤ v) : va_up (fun j : Nat => am_oR g (am_gr l c j)) i.toNat (some (g.1 + v.toNat)) = fun j : Nat => am_oR g (am_gr ((c, i, v) :: l) c j) := by
  funext j
  unfold va_up
  by_cases hj : j = i.toNat
  · subst hj
    rw [if_pos rfl, Int.toNat_of_nonneg h0, gr_s, am_oR, if_neg (by omega)]
  · rw [if_neg hj, gr_k (by omega)]
def c_put (m : Nat) (ps : List Int) (ok : FieldType → Bool) (fin : Bool) : Bool := match vwCl[(am_pa ps 0).toNat]? with
  | some q => ok (am_tyT (am_pa ps 0).toNat (am_pa ps 1).toNat) && decide ((q.2.1 (am_pa ps 1).toNat).2.2.2 = fin) && (!fin || (decide ((am_yn m).name = "<init>") && decide ((q.2.1 (am_pa ps 1).toNat).1 = (am_yn m).cls)))
  | none => false
def c_pI (m i : Nat) (ps : List Int) : Bool := am_dc m i (.putfield (am_pa ps 2).toNat) 3 && c_fld m ps && decide (am_ft (am_pa ps 0).toNat (am_pa ps 1).toNat ≠ 2) && c_put m ps (fun t => decide (t = .int)) false
set_option maxHeartbeats 4000000 in
theorem g_pI {mi i : Nat} {ps : List Int} (h : c_pI mi i ps = true) : am_Go mi i (s_pI ps) := by
  intro p l e R s m args below meth c Q g n0 cE C L S st r hc hf
  obtain ⟨hx, hb, hml, hown, hts, hini, hSB, hsz, -⟩ := C
  simp only [c_pI, Bool.and_eq_true, am_dc_iff, decide_eq_true_eq] at h
  obtain ⟨⟨⟨hd, hfl⟩, hft⟩, hpu⟩ := h
  obtain ⟨Cn, T, N, hci, hk0, hcl, hk, hlk⟩ := c_fld_of hfl
  simp only [c_put, hcl, Bool.and_eq_true, decide_eq_true_eq] at hpu
  obtain ⟨⟨hty, hfin⟩, -⟩ := hpu
  unfold s_pI at hf
  split at hf
  · next v cc S' =>
    split at hf
    · next his =>
      obtain ⟨i1, i2, i3⟩ := am_is_iff.mp his
      unfold am_nx at hf
      cases hf
      refine Sp0 (fun _ K ls H locs hl hP hS hn => ?_)
      rw [am_vI, am_vP0 _ _ i3]
      have he := am_cv_at (g := g) i1
      have hq := (am_cl hcl).2.1 _ hk
      rw [hty] at hq
      rw [am_ce_o i3 i2 hci, am_lay_sz i2 hci hcl] at he
      refine va_put (A := fun q => g.1 ≤ q) hx hb hts (am_cl hcl).1 (am_tyT (am_pa ps 0).toNat) (am_cl hcl).2.1 (am_cl hcl).2.2 hown hSB.1 hP am_cv_D hS cc.toNat he hcl (am_pa ps 1).toNat hk (hts _ hlk) (fun _ h9 => h9) hfin hq rfl rfl (by simpa using hk) hd.1 (fun H1 locs1 hP1 hD1 hS1 => ?_)
      rw [am_set_o i2 i3 hci hcl hk0 hft] at hP1
      have K := K ls H1 locs1 hl hP1 hS1 hn
      rw [hd.2] at K
      exact K
    · cases hf
  · cases hf
end
section
theorem am_nz {v : Int} (h : v = 0 ∨ v = 1) : narrow .boolean (.int (Int32.ofInt v)) = .int (Int32.ofInt v) ∧ fits .boolean (.int (Int32.ofInt v)) = true := by
  rcases h with rfl | rfl <;> decide
def c_pZ (m i : Nat) (ps : List Int) : Bool := am_dc m i (.putfield (am_pa ps 2).toNat) 3 && c_fld m ps && decide (am_ft (am_pa ps 0).toNat (am_pa ps 1).toNat ≠ 2) && c_put m ps (fun t => decide (t = .boolean)) false
set_option maxHeartbeats 4000000 in
theorem g_pZ {mi i : Nat} {ps : List Int} (h : c_pZ mi i ps = true) : am_Go mi i (s_pZ ps) := by
  intro p l e R s m args below meth c Q g n0 cE C L S st r hc hf
  obtain ⟨hx, hb, hml, hown, hts, hini, hSB, hsz, -⟩ := C
  simp only [c_pZ, Bool.and_eq_true, am_dc_iff, decide_eq_true_eq] at h
  obtain ⟨⟨⟨hd, hfl⟩, hft⟩, hpu⟩ := h
  obtain ⟨Cn, T, N, hci, hk0, hcl, hk, hlk⟩ := c_fld_of hfl
  simp only [c_put, hcl, Bool.and_eq_true, decide_eq_true_eq] at hpu
  obtain ⟨⟨hty, hfin⟩, -⟩ := hpu
  unfold s_pZ at hf
  split at hf
  · next v cc S' =>
    split at hf
    · next his =>
      obtain ⟨i1, i2, i3⟩ := am_is_iff.mp his.1
      have hz := am_nz his.2
      unfold am_nx at hf
      cases hf
      refine Sp0 (fun _ K ls H locs hl hP hS hn => ?_)
      rw [am_vI, am_vP0 _ _ i3]
      have he := am_cv_at (g := g) i1
      have hq := (am_cl hcl).2.1 _ hk
      rw [hty] at hq
      rw [am_ce_o i3 i2 hci, am_lay_sz i2 hci hcl] at he
      refine va_put (A := fun q => g.1 ≤ q) hx hb hts (am_cl hcl).1 (am_tyT (am_pa ps 0).toNat) (am_cl hcl).2.1 (am_cl hcl).2.2 hown hSB.1 hP am_cv_D hS cc.toNat he hcl (am_pa ps 1).toNat hk (hts _ hlk) (fun _ h9 => h9) hfin hq hz.1 hz.2 (by simpa using hk) hd.1 (fun H1 locs1 hP1 hD1 hS1 => ?_)
      rw [am_set_o i2 i3 hci hcl hk0 hft] at hP1
      have K := K ls H1 locs1 hl hP1 hS1 hn
      rw [hd.2] at K
      exact K
    · cases hf
  · cases hf
def am_rk : FieldType → Bool
  | .object _ => true
  | .array _ => true
  | _ => false
theorem am_rk_ok {ty : FieldType} (h : am_rk ty = true) (a : Nat) : narrow ty (.ref a) = .ref a ∧ fits ty (.ref a) = true := by
  cases ty <;> first | exact ⟨rfl, rfl⟩ | cases h
def c_pF (m i : Nat) (ps : List Int) : Bool := am_dc m i (.putfield (am_pa ps 2).toNat) 3 && c_fld m ps && decide (am_ft (am_pa ps 0).toNat (am_pa ps 1).toNat = 2) && c_put m ps am_rk true
set_option maxHeartbeats 4000000 in
theorem g_pF {mi i : Nat} {ps : List Int} (h : c_pF mi i ps = true) : am_Go mi i (s_pF ps) := by
  intro p l e R s m args below meth c Q g n0 cE C L S st r hc hf
  obtain ⟨hx, hb, hml, hown, hts, hini, hSB, hsz, -⟩ := C
  simp only [c_pF, Bool.and_eq_true, am_dc_iff, decide_eq_true_eq] at h
  obtain ⟨⟨⟨hd, hfl⟩, hft⟩, hpu⟩ := h
  obtain ⟨Cn, T, N, hci, hk0, hcl, hk, hlk⟩ := c_fld_of hfl
  simp only [c_put, hcl, Bool.and_eq_true, decide_eq_true_eq, Bool.not_true, Bool.false_or] at hpu
  obtain ⟨⟨hty, hfin⟩, hnm, hdl⟩ := hpu
  unfold s_pF at hf
  split at hf
  · next v cc S' =>
    split at hf
    · next his =>
      obtain ⟨i1, i2, i3⟩ := am_is_iff.mp his.1
      have hv := his.2
      unfold am_nx at hf
      cases hf
      refine Sp0 (fun _ K ls H locs hl hP hS hn => ?_)
      rw [am_vP0 _ _ hv, am_vP0 _ _ i3]
      have he := am_cv_at (g := g) i1
      have hq := (am_cl hcl).2.1 _ hk
      have hr := am_rk_ok hty (g.1 + v.toNat)
      rw [am_ce_o i3 i2 hci, am_lay_sz i2 hci hcl] at he
      refine va_putF (A := fun q => g.1 ≤ q) hx hb hts (am_cl hcl).1 (am_tyT (am_pa ps 0).toNat) (am_cl hcl).2.1 (am_cl hcl).2.2 hown hSB.1 hP am_cv_D hS cc.toNat he hcl (am_pa ps 1).toNat hk (hts _ hlk) (fun _ h9 => h9) hfin (hini hnm) hdl hq hr.1 hr.2 (by simpa using hk) hd.1 (fun H1 locs1 hP1 hD1 hS1 => ?_)
      rw [am_set_r i2 i3 hci hcl hk0 hft hv] at hP1
      have K := K ls H1 locs1 hl hP1 hS1 hn
      rw [hd.2] at K
      exact K
    · cases hf
  · cases hf
theorem g_iald {mi i : Nat} (h : am_dc mi i .iaload 1 = true) : am_Go mi i s_iald := by
  intro p l e R s m args below meth c Q g n0 cE C L S st r hc hf
  obtain ⟨hx, hb, hml, hown, hts, hini, hSB, hsz, -⟩ := C
  rw [am_dc_iff] at h
  unfold s_iald at hf
  split at hf
  · next ix cc S' =>
    have rv : r3 ix := (Ca_hd hc).1 rfl
    split at hf
    · next hcc =>
      split at hf
      · next hi =>
        subst hcc
        unfold am_nx at hf
        cases hf
        refine Sp0 (fun _ K ls H locs hl hP hS hn => ?_)
        have K := K ls H locs hl hP hS hn
        have hlen := hc.2.2.2.2.2.2.2
        have hsc := hc.2.2.2.2.2.2.1
        have hix : ix.toNat < g.2.2.2.2.1 := by omega
        have hv := hsc _ hix
        rw [Int.toNat_of_nonneg hi.1] at hv
        rw [h.2, am_vI, hv, am_i3] at K
        rw [am_vI, am_vP, if_pos (by decide)]
        refine va_sld (A := fun q => g.1 ≤ q) hx hb hSB.2.2.2.2.1 (by rw [hsz]; have := hSB.2.2.2.2.2; omega) (Nat.not_le.mpr hSB.2.2.2.2.2) hS (am_in rv hi.1 (by omega)) h.1 ?_
        rw [am_clamp rv]
        exact K
      · cases hf
    · split at hf
      · next his =>
        obtain ⟨i1, i2, i3⟩ := am_is_iff.mp his.1
        obtain ⟨j1, j2⟩ := am_ix_iff.mp his.2
        unfold am_nx at hf
        cases hf
        refine Sp0 (fun _ K ls H locs hl hP hS hn => ?_)
        have K := K ls H locs hl hP hS hn
        rw [h.2, am_vI] at K
        rw [am_vI, am_vP0 _ _ i3]
        have he := am_cv_at (g := g) i1
        rw [am_ce_20 i3 i2] at he
        refine va_iald hx hb hSB.1 hP cc.toNat 0 he rfl (am_in rv j1 j2) h.1 ?_
        try dsimp only
        rw [am_clamp rv, Int.toNat_of_nonneg j1]
        exact K
      · cases hf
  · cases hf
theorem g_lald {mi i : Nat} (h : am_dc mi i .laload 1 = true) : am_Go mi i s_lald := by
  intro p l e R s m args below meth c Q g n0 cE C L S st r hc hf
  obtain ⟨hx, hb, hml, hown, hts, hini, hSB, hsz, -⟩ := C
  rw [am_dc_iff] at h
  unfold s_lald at hf
  split at hf
  · next ix cc S' =>
    have rv : r3 ix := (Ca_hd hc).1 rfl
    split at hf
    · next his =>
      obtain ⟨i1, i2, i3⟩ := am_is_iff.mp his.1
      obtain ⟨j1, j2⟩ := am_ix_iff.mp his.2
      unfold am_nx at hf
      cases hf
      refine Sp0 (fun _ K ls H locs hl hP hS hn => ?_)
      have K := K ls H locs hl hP hS hn
      rw [h.2, am_vJ] at K
      rw [am_vI, am_vP0 _ _ i3]
      have he := am_cv_at (g := g) i1
      rw [am_ce_21 i3 i2] at he
      refine va_lald hx hb hSB.1 hP cc.toNat 1 he rfl (am_in rv j1 j2) h.1 ?_
      try dsimp only
      rw [am_clamp rv, Int.toNat_of_nonneg j1]
      exact K
    · cases hf
  · cases hf
theorem g_iast {mi i : Nat} (h : am_dc mi i .iastore 1 = true) : am_Go mi i s_iast := by
  intro p l e R s m args below meth c Q g n0 cE C L S st r hc hf
  obtain ⟨hx, hb, hml, hown, hts, hini, hSB, hsz, -⟩ := C
  rw [am_dc_iff] at h
  unfold s_iast at hf
  split at hf
  · next v ix cc S' =>
    have rv : r3 ix := (Ca_hd (Ca_tl hc)).1 rfl
    split at hf
    · next his =>
      obtain ⟨i1, i2, i3⟩ := am_is_iff.mp his.1
      obtain ⟨j1, j2⟩ := am_ix_iff.mp his.2
      unfold am_nx at hf
      cases hf
      refine Sp0 (fun _ K ls H locs hl hP hS hn => ?_)
      rw [am_vI, am_vI, am_vP0 _ _ i3]
      have he := am_cv_at (g := g) i1
      rw [am_ce_20 i3 i2] at he
      refine va_iast (A := fun q => g.1 ≤ q) hx hb hSB.1 hP am_cv_D hS cc.toNat 0 he rfl (am_in rv j1 j2) h.1 (fun H1 locs1 hP1 hD1 hS1 => ?_)
      rw [am_clamp rv, am_set_20 i2 i3 j1] at hP1
      have K := K ls H1 locs1 hl hP1 hS1 hn
      rw [h.2] at K
      exact K
    · cases hf
  · cases hf
theorem g_last {mi i : Nat} (h : am_dc mi i .lastore 1 = true) : am_Go mi i s_last := by
  intro p l e R s m args below meth c Q g n0 cE C L S st r hc hf
  obtain ⟨hx, hb, hml, hown, hts, hini, hSB, hsz, -⟩ := C
  rw [am_dc_iff] at h
  unfold s_last at hf
  split at hf
  · next v ix cc S' =>
    have rv : r3 ix := (Ca_hd (Ca_tl hc)).1 rfl
    split at hf
    · next his =>
      obtain ⟨i1, i2, i3⟩ := am_is_iff.mp his.1
      obtain ⟨j1, j2⟩ := am_ix_iff.mp his.2
      unfold am_nx at hf
      cases hf
      refine Sp0 (fun _ K ls H locs hl hP hS hn => ?_)
      rw [am_vJ, am_vI, am_vP0 _ _ i3]
      have he := am_cv_at (g := g) i1
      rw [am_ce_21 i3 i2] at he
      refine va_last (A := fun q => g.1 ≤ q) hx hb hSB.1 hP am_cv_D hS cc.toNat 1 he rfl (am_in rv j1 j2) h.1 (fun H1 locs1 hP1 hD1 hS1 => ?_)
      rw [am_clamp rv, am_set_21 i2 i3 j1] at hP1
      have K := K ls H1 locs1 hl hP1 hS1 hn
      rw [h.2] at K
      exact K
    · cases hf
  · cases hf
theorem g_aald {mi i : Nat} (h : am_dc mi i .aaload 1 = true) : am_Go mi i s_aald := by
  intro p l e R s m args below meth c Q g n0 cE C L S st r hc hf
  obtain ⟨hx, hb, hml, hown, hts, hini, hSB, hsz, -⟩ := C
  rw [am_dc_iff] at h
  unfold s_aald at hf
  split at hf
  · next ix cc S' =>
    have rv : r3 ix := (Ca_hd hc).1 rfl
    split at hf
    · next his =>
      obtain ⟨hk, hi, h0⟩ := his
      obtain ⟨j1, j2⟩ := am_ix_iff.mp hi
      unfold am_nx at hf
      cases hf
      refine Sp0 (fun _ K ls H locs hl hP hS hn => ?_)
      have K := K ls H locs hl hP hS hn
      rw [h.2, am_vP0 _ _ h0] at K
      have e0 : va_rf (am_oR g (am_gr st.2.1 cc ix)) = .ref (g.1 + (am_gr st.2.1 cc ix).toNat) := by
        rw [am_oR, if_neg (by omega)]; rfl
      rcases hk with hk | hk
      · obtain ⟨i1, i2, i3⟩ := am_is_iff.mp hk
        rw [am_vI, am_vP0 _ _ i3]
        have he := am_cv_at (g := g) i1
        rw [am_ce_22 i3 i2] at he
        refine va_aldq hx hb hSB.1 hP cc.toNat 2 he rfl (am_in rv j1 j2) h.1 ?_
        try dsimp only
        rw [am_clamp rv, Int.toNat_of_nonneg j1, e0]
        exact K
      · obtain ⟨i1, i2, i3⟩ := am_is_iff.mp hk
        rw [am_vI, am_vP0 _ _ i3]
        have he := am_cv_at (g := g) i1
        rw [am_ce_23 i3 i2] at he
        refine va_aldq hx hb hSB.1 hP cc.toNat 3 he rfl (am_in rv j1 j2) h.1 ?_
        try dsimp only
        rw [am_clamp rv, Int.toNat_of_nonneg j1, e0]
        exact K
    · cases hf
  · cases hf
set_option maxHeartbeats 4000000 in
theorem g_aast {mi i : Nat} (h : am_dc mi i .aastore 1 = true) : am_Go mi i s_aast := by
  intro p l e R s m args below meth c Q g n0 cE C L S st r hc hf
  obtain ⟨hx, hb, hml, hown, hts, hini, hSB, hsz, -⟩ := C
  rw [am_dc_iff] at h
  unfold s_aast at hf
  split at hf
  · next v ix cc S' =>
    have rv : r3 ix := (Ca_hd (Ca_tl hc)).1 rfl
    split at hf
    · next his =>
      obtain ⟨hk, hi⟩ := his
      obtain ⟨j1, j2⟩ := am_ix_iff.mp hi
      unfold am_nx at hf
      cases hf
      refine Sp0 (fun _ K ls H locs hl hP hS hn => ?_)
      rcases hk with ⟨hk, hv⟩ | ⟨hk, hv⟩
      · obtain ⟨i1, i2, i3⟩ := am_is_iff.mp hk
        obtain ⟨v1, v2, v3⟩ := am_is_iff.mp hv
        rw [am_vP0 _ _ v3, am_vI, am_vP0 _ _ i3]
        have he := am_cv_at (g := g) i1
        rw [am_ce_22 i3 i2] at he
        have hw := am_cv_at (g := g) v1
        rw [am_ce_o v3 v2 (by decide)] at hw
        refine va_astq (A := fun q => g.1 ≤ q) (r := (RX3, TX3, 6)) hx hb hSB.1 hP am_cv_D hS cc.toNat 2 v.toNat 3 he rfl hw rfl (am_in rv j1 j2) h.1 (fun H1 locs1 hP1 hD1 hS1 => ?_)
        rw [am_clamp rv, am_oR_up j1 v3] at hP1
        have hq := am_cv_set (g := g) (st := st) (st' := (st.1, (cc, ix, v) :: st.2.1, st.2.2)) (c := cc.toNat) rfl (am_ce_rf i3)
        rw [am_ce_22 i3 i2] at hq
        dsimp only at hq
        rw [hq] at hP1
        have K := K ls H1 locs1 hl hP1 hS1 hn
        rw [h.2] at K
        exact K
      · obtain ⟨i1, i2, i3⟩ := am_is_iff.mp hk
        obtain ⟨v1, v2, v3⟩ := am_is_iff.mp hv
        rw [am_vP0 _ _ v3, am_vI, am_vP0 _ _ i3]
        have he := am_cv_at (g := g) i1
        rw [am_ce_23 i3 i2] at he
        have hw := am_cv_at (g := g) v1
        rw [am_ce_o v3 v2 (by decide)] at hw
        refine va_astq (A := fun q => g.1 ≤ q) (r := (RX6, TX6, 4)) hx hb hSB.1 hP am_cv_D hS cc.toNat 3 v.toNat 6 he rfl hw rfl (am_in rv j1 j2) h.1 (fun H1 locs1 hP1 hD1 hS1 => ?_)
        rw [am_clamp rv, am_oR_up j1 v3] at hP1
        have hq := am_cv_set (g := g) (st := st) (st' := (st.1, (cc, ix, v) :: st.2.1, st.2.2)) (c := cc.toNat) rfl (am_ce_rf i3)
        rw [am_ce_23 i3 i2] at hq
        dsimp only at hq
        rw [hq] at hP1
        have K := K ls H1 locs1 hl hP1 hS1 hn
        rw [h.2] at K
        exact K
    · cases hf
  · cases hf
theorem g_alen {mi i : Nat} (h : am_dc mi i .arraylength 1 = true) : am_Go mi i s_alen := by
  intro p l e R s m args below meth c Q g n0 cE C L S st r hc hf
  obtain ⟨hx, hb, hml, hown, hts, hini, hSB, hsz, -⟩ := C
  rw [am_dc_iff] at h
  unfold s_alen at hf
  split at hf
  · next cc S' =>
    split at hf
    · next hcc =>
      subst hcc
      unfold am_nx at hf
      cases hf
      refine Sp0 (fun _ K ls H locs hl hP hS hn => ?_)
      have K := K ls H locs hl hP hS hn
      have hlen := hc.2.2.2.2.2.2.2
      rw [h.2, am_vI, hlen, Int32.ofInt_eq_ofNat] at K
      rw [am_vP, if_pos (by decide)]
      exact va_slen (A := fun q => g.1 ≤ q) hx hb hSB.2.2.2.2.1 (by rw [hsz]; have := hSB.2.2.2.2.2; omega) (Nat.not_le.mpr hSB.2.2.2.2.2) hS h.1 K
    · split at hf
      · next his =>
        unfold am_nx at hf
        cases hf
        refine Sp0 (fun _ K ls H locs hl hP hS hn => ?_)
        have K := K ls H locs hl hP hS hn
        rw [h.2, am_vI, Int32.ofInt_eq_ofNat] at K
        rcases his with hk | hk
        · obtain ⟨i1, i2, i3⟩ := am_is_iff.mp hk
          rw [am_vP0 _ _ i3]
          have he := am_cv_at (g := g) i1
          rw [am_ce_20 i3 i2] at he
          exact va_alen hx hb hSB.1 hP cc.toNat 0 he rfl rfl h.1 K
        · obtain ⟨i1, i2, i3⟩ := am_is_iff.mp hk
          rw [am_vP0 _ _ i3]
          have he := am_cv_at (g := g) i1
          rw [am_ce_21 i3 i2] at he
          exact va_alen hx hb hSB.1 hP cc.toNat 1 he rfl rfl h.1 K
      · cases hf
  · cases hf
end
section
theorem am_sl_s {n : Nat} {q : Nat × Nat} (h : am_LY[n]? = some q) : am_sl (n + 1) = am_sl n + q.2 := by
  have hn := (List.getElem?_eq_some_iff.mp h).1
  unfold am_sl
  rw [List.take_add_one, h]
  simp
theorem am_sl_le {a b : Nat} (h : a ≤ b) : am_sl a ≤ am_sl b := by
  induction b with
  | zero => rw [Nat.le_zero.mp h]; exact Nat.le_refl _
  | succ b ih =>
    by_cases hb : a = b + 1
    · rw [hb]; exact Nat.le_refl _
    · refine Nat.le_trans (ih (by omega)) ?_
      unfold am_sl
      rw [List.take_add_one]
      simp
theorem am_lay_at {n : Nat} {q : Nat × Nat} (h : am_LY[n]? = some q) : am_lay (n : Int) = q := by
  unfold am_lay
  rw [if_neg (by omega), Int.toNat_natCast, List.getD_eq_getElem?_getD, h]
  rfl
theorem am_W_new {p : Program} {l : Launch} {e : Env} {R : Room} {s : State} {m : MethodId} {args : Array Value} {below : List Frame} {meth : Method} {c : Code} {H : Heap} {locs : List Loc} {slots n0 q : Nat} {Q : State → Prop} {f : JFrame} {g : am_G} {st : am_S} {en : va_E} (hsz : s.heap.size = g.1 + n0) (hn : n0 ≤ st.1) (hP : va_P g.2.1 vwCl (am_cv g st ++ [(q, en)]) H) (hD : va_D (fun q => g.1 ≤ q) (am_cv g st ++ [(q, en)]))
    (k : q = g.1 + st.1 → W p l e R s m args below meth c H locs (st.1 - n0 + 1) slots Q f) : W p l e R s m args below meth c H locs (st.1 - n0 + 1) slots Q f := by
  intro T hT X
  refine k ?_ T hT X
  have h1 : T.heap.size ≤ s.heap.size + (st.1 - n0 + 1) := X.same.2.2.1
  rw [hT] at h1
  have hq : (am_cv g st ++ [(q, en)])[st.1]? = some (q, en) := by
    rw [List.getElem?_append_right (by rw [am_cv_len]; exact Nat.le_refl _), am_cv_len, Nat.sub_self]
    rfl
  have h2 := (hP st.1 _ hq).lt
  have h3 := hD.2 st.1 _ hq
  dsimp only at h2 h3
  by_cases h4 : q < g.1 + st.1
  · have h5 : q - g.1 < st.1 := by omega
    have h6 : (am_cv g st ++ [(q, en)])[q - g.1]? = some (g.1 + (q - g.1), am_ce g st (q - g.1)) := by
      rw [List.getElem?_append_left (by rw [am_cv_len]; exact h5), am_cv_at h5]
    have := hD.1 _ _ _ _ hq h6 (by dsimp only; omega)
    omega
  · omega
def c_narr (m i : Nat) (ps : List Int) : Bool := (if am_pa ps 0 = 0 then am_dc m i (.newarray .int) 2 && am_wd 138 (.arrayClass .int) else decide (am_pa ps 0 = 1) && am_dc m i (.newarray .long) 2 && am_wd 325 (.arrayClass .long))
set_option maxHeartbeats 4000000 in
theorem g_narr {mi i : Nat} {ps : List Int} (h : c_narr mi i ps = true) : am_Go mi i (s_narr ps) := by
  intro p l e R s m args below meth c Q g n0 cE C L S st r hc hf
  obtain ⟨hx, hb, hml, hown, hts, hini, hSB, hsz, hfr, hlc, hce, hsl, -⟩ := C
  unfold s_narr at hf
  split at hf
  · next k S' =>
    have rk : r3 k := (Ca_hd hc).1 rfl
    split at hf
    · next hk =>
      obtain ⟨hly, hk0⟩ := hk
      unfold am_nx at hf
      cases hf
      refine Sp0 (fun hcE K ls H locs hl hP hS hn => ?_)
      dsimp only at hcE
      have hsS := am_sl_s hly
      have hm1 := am_sl_le hcE
      have hm2 := am_sl_le hn
      dsimp only at hsS
      have hkn : k.toNat < 2147483648 := by have := rk.2; omega
      unfold c_narr at h
      split at h
      · next h0 =>
        rw [h0] at hly
        simp only [Bool.and_eq_true, am_dc_iff] at h
        obtain ⟨hd, hw⟩ := h
        rw [am_vI]
        have hzero : ∀ j : Int, st.2.2 (st.1 : Int) j = 0 := fun j => hc.2.2.2.2.1 _ j (Int.le_refl _)
        by_cases hbig : k.toNat * 4 ≤ 536870912
        · refine va_newa (A := fun q => g.1 ≤ q) (ty := .int) (a0 := (k.toNat, .inl (fun _ => 0))) hx hb (hts _ (am_wd_in hw)) rfl hSB.1 hP am_cv_D hS (fun q hq => by rw [hsz] at hq; exact Nat.le_trans (Nat.le_add_right _ _) hq) (fun cA => rfl) (by have := am_l3 rk r3_0; show ¬ (Int32.ofInt k < 0); rw [show (0 : Int32) = Int32.ofInt 0 from rfl, this]; omega) (am_clamp rk) hbig (by omega) (by omega) hd.1 (fun q cA H1 hK1 hP1 hD1 hS1 => ?_)
          refine am_W_new hsz hn hP1 hD1 (fun hq => ?_)
          have hcA : cA = g.2.2.1.1 := by
            have a1 := (hK1.2 4 (cA, .int) rfl).2
            have a2 := (hSB.1.2 0 (g.2.2.1.1, .int) rfl).2
            exact Option.some.inj (a1.symm.trans a2)
          have hce : am_ce g (st.1 + 1, st.2.1, st.2.2) st.1 = .inl (cA, k.toNat, .inl (fun _ => 0)) := by
            have e0 := am_ce_20 (g := g) (st := (st.1 + 1, st.2.1, st.2.2)) (c := (st.1 : Int)) (by omega) (by rw [am_lay_at hly]; rfl)
            rw [Int.toNat_natCast, am_lay_at hly, ← hcA] at e0
            rw [e0]
            dsimp only
            congr 4
            funext j
            rw [hzero]
            rfl
          rw [hq, ← hce] at hP1
          rw [show am_cv g st = am_cv g (st.1, st.2.1, st.2.2) from rfl, ← am_cv_push] at hP1
          have K := K ls H1 locs hl hP1 hS1 (by dsimp only; omega)
          rw [hd.2] at K
          dsimp only at K
          rw [show st.1 + 1 - n0 = st.1 - n0 + 1 by omega, show am_sl (st.1 + 1) - am_sl n0 = am_sl st.1 - am_sl n0 + k.toNat by omega, am_vP0 _ _ (by omega), Int.toNat_natCast, ← hq] at K
          exact K
        · exfalso
          exact hbig (by
            have hmem : (20 + (0 : Int).toNat, k.toNat) ∈ am_LY := List.mem_of_getElem? hly
            have hall : ∀ q ∈ am_LY, q.2 * 8 ≤ 536870912 := by decide +kernel
            have := hall _ hmem
            dsimp only at this
            omega)
      · next h0 =>
        simp only [Bool.and_eq_true, am_dc_iff, decide_eq_true_eq] at h
        obtain ⟨⟨h1, hd⟩, hw⟩ := h
        rw [h1] at hly
        rw [am_vI]
        have hzero : ∀ j : Int, st.2.2 (st.1 : Int) j = 0 := fun j => hc.2.2.2.2.1 _ j (Int.le_refl _)
        by_cases hbig : k.toNat * 8 ≤ 536870912
        · refine va_newa (A := fun q => g.1 ≤ q) (ty := .long) (a0 := (k.toNat, .inr (.inl (fun _ => 0)))) hx hb (hts _ (am_wd_in hw)) rfl hSB.1 hP am_cv_D hS (fun q hq => by rw [hsz] at hq; exact Nat.le_trans (Nat.le_add_right _ _) hq) (fun cA => rfl) (by have := am_l3 rk r3_0; show ¬ (Int32.ofInt k < 0); rw [show (0 : Int32) = Int32.ofInt 0 from rfl, this]; omega) (am_clamp rk) hbig (by omega) (by omega) hd.1 (fun q cA H1 hK1 hP1 hD1 hS1 => ?_)
          refine am_W_new hsz hn hP1 hD1 (fun hq => ?_)
          have hcA : cA = g.2.2.1.2.1 := by
            have a1 := (hK1.2 4 (cA, .long) rfl).2
            have a2 := (hSB.1.2 1 (g.2.2.1.2.1, .long) rfl).2
            exact Option.some.inj (a1.symm.trans a2)
          have hce : am_ce g (st.1 + 1, st.2.1, st.2.2) st.1 = .inl (cA, k.toNat, .inr (.inl (fun _ => 0))) := by
            have e0 := am_ce_21 (g := g) (st := (st.1 + 1, st.2.1, st.2.2)) (c := (st.1 : Int)) (by omega) (by rw [am_lay_at hly]; rfl)
            rw [Int.toNat_natCast, am_lay_at hly, ← hcA] at e0
            rw [e0]
            dsimp only
            congr 5
            funext j
            rw [hzero]
            rfl
          rw [hq, ← hce] at hP1
          rw [show am_cv g st = am_cv g (st.1, st.2.1, st.2.2) from rfl, ← am_cv_push] at hP1
          have K := K ls H1 locs hl hP1 hS1 (by dsimp only; omega)
          rw [hd.2] at K
          dsimp only at K
          rw [show st.1 + 1 - n0 = st.1 - n0 + 1 by omega, show am_sl (st.1 + 1) - am_sl n0 = am_sl st.1 - am_sl n0 + k.toNat by omega, am_vP0 _ _ (by omega), Int.toNat_natCast, ← hq] at K
          exact K
        · exfalso
          exact hbig (by
            have hmem : (20 + (1 : Int).toNat, k.toNat) ∈ am_LY := List.mem_of_getElem? hly
            have hall : ∀ q ∈ am_LY, q.2 * 8 ≤ 536870912 := by decide +kernel
            have := hall _ hmem
            dsimp only at this
            omega)
    · cases hf
  · cases hf
def c_anew (m i : Nat) (ps : List Int) : Bool := am_dc m i (.anewarray (am_pa ps 1).toNat) 3 && (if am_pa ps 0 = 0 then am_wd (am_pa ps 2).toNat (.classLink (am_yn m).cls (am_pa ps 1).toNat "TornBag$Moment") else decide (am_pa ps 0 = 1) && am_wd (am_pa ps 2).toNat (.classLink (am_yn m).cls (am_pa ps 1).toNat "TornBag$Sheet"))
set_option maxHeartbeats 4000000 in
theorem g_anew {mi i : Nat} {ps : List Int} (h : c_anew mi i ps = true) : am_Go mi i (s_anew ps) := by
  intro p l e R s m args below meth c Q g n0 cE C L S st r hc hf
  obtain ⟨hx, hb, hml, hown, hts, hini, hSB, hsz, hfr, hlc, hce, hsl, -⟩ := C
  simp only [c_anew, Bool.and_eq_true, am_dc_iff] at h
  obtain ⟨hd, hw⟩ := h
  unfold s_anew at hf
  split at hf
  · next k S' =>
    have rk : r3 k := (Ca_hd hc).1 rfl
    split at hf
    · next hk =>
      obtain ⟨hly, hk0⟩ := hk
      unfold am_nx at hf
      cases hf
      refine Sp0 (fun hcE K ls H locs hl hP hS hn => ?_)
      dsimp only at hcE
      have hsS := am_sl_s hly
      have hm1 := am_sl_le hcE
      have hm2 := am_sl_le hn
      dsimp only at hsS
      have hall : ∀ q ∈ am_LY, q.2 * 8 ≤ 536870912 := by decide +kernel
      have hbig := hall _ (List.mem_of_getElem? hly)
      dsimp only at hbig
      have hnull : ∀ j : Int, am_gr st.2.1 (st.1 : Int) j = -1 := fun j => hc.2.2.2.2.2.1 _ j (Int.le_refl _)
      have hneg : ¬ (Int32.ofInt k < 0) := by
        have := am_l3 rk r3_0
        rw [show (0 : Int32) = Int32.ofInt 0 from rfl, this]
        omega
      rw [am_vI]
      split at hw
      · next h0 =>
        rw [h0] at hly
        refine va_newq (A := fun q => g.1 ≤ q) hx hb hown (hts _ (am_wd_in hw)) hSB.2.2.1 hSB.1 hP am_cv_D hS (fun q hq => by rw [hsz] at hq; exact Nat.le_trans (Nat.le_add_right _ _) hq) hneg (am_clamp rk) (by omega) (by omega) (by omega) hd.1 (fun q cA H1 hK1 hP1 hD1 hS1 => ?_)
        refine am_W_new hsz hn hP1 hD1 (fun hq => ?_)
        have hcA : cA = g.2.2.1.2.2.1 := by
          obtain ⟨kA, comp, a1, a2, a3, a4⟩ := (hK1.2 4 (cA, .object "TornBag$Moment") rfl).2
          obtain ⟨kB, comp2, b1, b2, b3, b4⟩ := (hSB.1.2 2 (g.2.2.1.2.2.1, .object "TornBag$Moment") rfl).2
          exact Option.some.inj (a4.symm.trans b4)
        have hce : am_ce g (st.1 + 1, st.2.1, st.2.2) st.1 = .inl (cA, k.toNat, .inr (.inr (.inr (.inr (fun _ => none))))) := by
          have e0 := am_ce_22 (g := g) (st := (st.1 + 1, st.2.1, st.2.2)) (c := (st.1 : Int)) (by omega) (by rw [am_lay_at hly]; rfl)
          rw [Int.toNat_natCast, am_lay_at hly, ← hcA] at e0
          rw [e0]
          dsimp only
          congr 8
          funext j
          rw [hnull]
          rfl
        rw [hq, ← hce] at hP1
        rw [show am_cv g st = am_cv g (st.1, st.2.1, st.2.2) from rfl, ← am_cv_push] at hP1
        have K := K ls H1 locs hl hP1 hS1 (by dsimp only; omega)
        rw [hd.2] at K
        dsimp only at K
        rw [show st.1 + 1 - n0 = st.1 - n0 + 1 by omega, show am_sl (st.1 + 1) - am_sl n0 = am_sl st.1 - am_sl n0 + k.toNat by omega, am_vP0 _ _ (by omega), Int.toNat_natCast, ← hq] at K
        exact K
      · next h0 =>
        simp only [Bool.and_eq_true, decide_eq_true_eq] at hw
        obtain ⟨h1, hw⟩ := hw
        rw [h1] at hly
        refine va_newq (A := fun q => g.1 ≤ q) hx hb hown (hts _ (am_wd_in hw)) hSB.2.2.2.1 hSB.1 hP am_cv_D hS (fun q hq => by rw [hsz] at hq; exact Nat.le_trans (Nat.le_add_right _ _) hq) hneg (am_clamp rk) (by omega) (by omega) (by omega) hd.1 (fun q cA H1 hK1 hP1 hD1 hS1 => ?_)
        refine am_W_new hsz hn hP1 hD1 (fun hq => ?_)
        have hcA : cA = g.2.2.1.2.2.2 := by
          obtain ⟨kA, comp, a1, a2, a3, a4⟩ := (hK1.2 4 (cA, .object "TornBag$Sheet") rfl).2
          obtain ⟨kB, comp2, b1, b2, b3, b4⟩ := (hSB.1.2 3 (g.2.2.1.2.2.2, .object "TornBag$Sheet") rfl).2
          exact Option.some.inj (a4.symm.trans b4)
        have hce : am_ce g (st.1 + 1, st.2.1, st.2.2) st.1 = .inl (cA, k.toNat, .inr (.inr (.inr (.inr (fun _ => none))))) := by
          have e0 := am_ce_23 (g := g) (st := (st.1 + 1, st.2.1, st.2.2)) (c := (st.1 : Int)) (by omega) (by rw [am_lay_at hly]; rfl)
          rw [Int.toNat_natCast, am_lay_at hly, ← hcA] at e0
          rw [e0]
          dsimp only
          congr 8
          funext j
          rw [hnull]
          rfl
        rw [hq, ← hce] at hP1
        rw [show am_cv g st = am_cv g (st.1, st.2.1, st.2.2) from rfl, ← am_cv_push] at hP1
        have K := K ls H1 locs hl hP1 hS1 (by dsimp only; omega)
        rw [hd.2] at K
        dsimp only at K
        rw [show st.1 + 1 - n0 = st.1 - n0 + 1 by omega, show am_sl (st.1 + 1) - am_sl n0 = am_sl st.1 - am_sl n0 + k.toNat by omega, am_vP0 _ _ (by omega), Int.toNat_natCast, ← hq] at K
        exact K
    · cases hf
  · cases hf
theorem am_df : ∀ ci : Nat, ci < 12 → ∀ j : Nat, j < (am_FT.getD ci []).length → (am_ft ci j = 2 → defaultValue (am_tyT ci j) = .null) ∧ (am_ft ci j ≠ 2 → defaultValue (am_tyT ci j) = .int 0) := by decide +kernel
theorem am_fn : ∀ ci : Nat, ci < 12 → (vwCl[ci]?).map (fun r => r.2.2) = some (am_FT.getD ci []).length := by decide +kernel
def c_new (m i : Nat) (ps : List Int) : Bool := am_dc m i (.new (am_pa ps 1).toNat) 3 && decide ((am_pa ps 0).toNat < 12) && (match vwCl[(am_pa ps 0).toNat]? with
  | some q => am_wd (am_pa ps 2).toNat (.classLink (am_yn m).cls (am_pa ps 1).toNat q.1) && am_wd (am_KI.getD (am_pa ps 0).toNat 0) (.instantiable q.1 q.2.2) && am_wd (am_KN.getD (am_pa ps 0).toNat 0) (.initialized q.1)
  | none => false)
set_option maxHeartbeats 4000000 in
theorem g_new {mi i : Nat} {ps : List Int} (h : c_new mi i ps = true) : am_Go mi i (s_new ps) := by
  intro p l e R s m args below meth c Q g n0 cE C L S st r hc hf
  obtain ⟨hx, hb, hml, hown, hts, hini, hSB, hsz, hfr, hlc, hce, hsl, -⟩ := C
  simp only [c_new, Bool.and_eq_true, am_dc_iff, decide_eq_true_eq] at h
  obtain ⟨⟨hd, hci⟩, hw⟩ := h
  split at hw
  · next q hcl =>
    obtain ⟨Cn, T, N⟩ := q
    simp only [Bool.and_eq_true] at hw
    obtain ⟨⟨hw1, hw2⟩, hw3⟩ := hw
    unfold s_new at hf
    split at hf
    · next hk =>
      cases hly : am_LY[st.1]? with
      | none => rw [hly] at hk; cases hk
      | some q =>
        rw [hly] at hk
        have hk := Option.some.inj hk
        unfold am_nx at hf
        cases hf
        refine Sp0 (fun hcE K ls H locs hl hP hS hn => ?_)
        dsimp only at hcE
        have hlat := am_lay_at hly
        have hqs : q.2 = N := by
          have := am_lay_sz (c := (st.1 : Int)) (by rw [hlat]; exact hk) hci hcl
          rwa [hlat] at this
        have hsS := am_sl_s hly
        have hm1 := am_sl_le hcE
        have hm2 := am_sl_le hn
        have hzero : ∀ j : Int, st.2.2 (st.1 : Int) j = 0 := fun j => hc.2.2.2.2.1 _ j (Int.le_refl _)
        have hnull : ∀ j : Int, am_gr st.2.1 (st.1 : Int) j = -1 := fun j => hc.2.2.2.2.2.1 _ j (Int.le_refl _)
        have hNN : N = (am_FT.getD (am_pa ps 0).toNat []).length := by
          have := am_fn _ hci
          rw [hcl] at this
          exact Option.some.inj this
        refine va_new (A := fun q => g.1 ≤ q) (fs := (List.range N).map (fun k => am_fv g (am_pa ps 0).toNat k (st.2.2 (st.1 : Int) k) (am_gr st.2.1 (st.1 : Int) k))) hx hb hts (am_cl hcl).1 (am_tyT (am_pa ps 0).toNat) (am_cl hcl).2.1 hown (hts _ (am_wd_in hw1)) (hts _ (am_wd_in hw2)) (hts _ (am_wd_in hw3)) hSB.1 hP am_cv_D hS (fun q hq => by rw [hsz] at hq; exact Nat.le_trans (Nat.le_add_right _ _) hq) hcl (fun j hj => ?_) (by omega) (by omega) hd.1 (fun q' H1 hP1 hD1 hS1 => ?_)
        · have := am_df _ hci j (by rw [← hNN]; exact hj)
          rw [vp_V, List.getD_eq_getElem?_getD, am_fs_at hj, am_fv, hzero, hnull]
          dsimp only [Option.getD]
          by_cases h2 : am_ft (am_pa ps 0).toNat j = 2
          · rw [if_pos h2, this.1 h2]; rfl
          · rw [if_neg h2, this.2 h2]; rfl
        · refine am_W_new hsz hn hP1 hD1 (fun hq => ?_)
          have hce : am_ce g (st.1 + 1, st.2.1, st.2.2) st.1 = .inr ((am_pa ps 0).toNat, (List.range N).map (fun k => am_fv g (am_pa ps 0).toNat k (st.2.2 (st.1 : Int) k) (am_gr st.2.1 (st.1 : Int) k))) := by
            have e0 := am_ce_o (g := g) (st := (st.1 + 1, st.2.1, st.2.2)) (c := (st.1 : Int)) (by omega) (by rw [hlat]; exact hk) hci
            rw [Int.toNat_natCast, hlat, hqs] at e0
            exact e0
          rw [hq, ← hce] at hP1
          rw [show am_cv g st = am_cv g (st.1, st.2.1, st.2.2) from rfl, ← am_cv_push] at hP1
          have K := K ls H1 locs hl hP1 hS1 (by dsimp only; omega)
          rw [hd.2] at K
          dsimp only at K
          rw [show st.1 + 1 - n0 = st.1 - n0 + 1 by omega, show am_sl (st.1 + 1) - am_sl n0 = am_sl st.1 - am_sl n0 + N by omega, am_vP0 _ _ (by omega), Int.toNat_natCast, ← hq] at K
          exact K
    · cases hf
  · cases hw
end
section
def c_mth (m : Nat) : Bool := am_wd (am_WN.getD m 0) (.initialized (am_yn m).cls) && plainName (am_yn m).cls && decide ((am_yn m).cls ≠ "java/lang/invoke/MethodHandle") && decide ((am_yn m).cls ≠ "java/lang/invoke/VarHandle") && (if am_oc m = 99 then am_wd (am_WM.getD m 0) (.static (am_yn m)) && decide ((parseMethodDescriptor (am_yn m).desc).map (fun d => d.parameters.length) = some (am_wi m).length) else am_wd (am_WM.getD m 0) (.instanceMethod (am_yn m)) && decide ((parseMethodDescriptor (am_yn m).desc).map (fun d => d.parameters.length + 1) = some (am_wi m).length) && decide (am_oc m < 12) && decide ((vwCl[am_oc m]?).map (fun q => q.1) = some (am_yn m).cls) && decide ((am_yn m).name = "<init>" ∨ lw_tbl[am_WS.getD m 0]? = some (.selects (am_yn m).cls (am_yn m) (am_yn m)))) && decide ((am_wi m).sum ≤ am_mx m)
set_option maxRecDepth 100000 in
theorem cw_0 : ([91, 143, 162, 199, 85, 241, 284, 306, 330, 371, 77, 1019, 430, 438, 443, 434, 427, 1085, 1091, 1088, 1082, 455, 459, 451, 447, 1098, 1095, 467, 472] : List Nat).map (fun i => lw_tbl[i]?) = (List.range 29).map (fun j => some (Cond.code (am_yn (0 + j)) (am_by (0 + j)) (am_mx (0 + j)) (am_rt (0 + j)))) := by rfl
set_option maxRecDepth 100000 in
theorem cw_29 : ([478, 475, 463, 1106, 1110, 1117, 1114, 1102, 483, 1121, 491, 503, 500, 495, 507, 487, 1128, 1131, 1134, 1125, 519, 526, 515, 511, 1141, 1138, 537, 534, 530] : List Nat).map (fun i => lw_tbl[i]?) = (List.range 29).map (fun j => some (Cond.code (am_yn (29 + j)) (am_by (29 + j)) (am_mx (29 + j)) (am_rt (29 + j)))) := by rfl
set_option maxRecDepth 100000 in
theorem cw_58 : ([1148, 1145, 544, 1152, 548, 1156, 556, 552, 1160, 568, 571, 575, 564, 586, 583, 579, 560, 1168, 1171, 1175, 1164, 603, 610, 607, 623, 628, 619, 615, 600] : List Nat).map (fun i => lw_tbl[i]?) = (List.range 29).map (fun j => some (Cond.code (am_yn (58 + j)) (am_by (58 + j)) (am_mx (58 + j)) (am_rt (58 + j)))) := by rfl
set_option maxRecDepth 100000 in
theorem cw_87 : ([638, 634, 596, 1182, 1193, 1190, 1197, 1205, 1213, 1209, 1201, 1186, 1179, 648, 644, 1217, 656, 661, 652, 1225, 1229, 1221, 670, 683, 679, 690, 697, 707, 712] : List Nat).map (fun i => lw_tbl[i]?) = (List.range 29).map (fun j => some (Cond.code (am_yn (87 + j)) (am_by (87 + j)) (am_mx (87 + j)) (am_rt (87 + j)))) := by rfl
set_option maxRecDepth 100000 in
theorem cw_116 : ([722, 719, 703, 675, 666, 1237, 1251, 1248, 1254, 1257, 1245, 1233, 733, 729, 1261, 737, 1265, 741, 1269, 755, 749, 761, 745, 1277, 1281, 1273, 779, 774, 769] : List Nat).map (fun i => lw_tbl[i]?) = (List.range 29).map (fun j => some (Cond.code (am_yn (116 + j)) (am_by (116 + j)) (am_mx (116 + j)) (am_rt (116 + j)))) := by rfl
set_option maxRecDepth 100000 in
theorem cw_145 : ([765, 1289, 1285, 789, 794, 803, 813, 809, 818, 823, 799, 827, 785, 1296, 1300, 1304, 1293, 835, 831, 1308, 852, 848, 844, 840, 1316, 1320, 1312, 863, 873] : List Nat).map (fun i => lw_tbl[i]?) = (List.range 29).map (fun j => some (Cond.code (am_yn (145 + j)) (am_by (145 + j)) (am_mx (145 + j)) (am_rt (145 + j)))) := by rfl
set_option maxRecDepth 100000 in
theorem cw_174 : ([868, 859, 1328, 1332, 1324, 881, 889, 900, 896, 885, 909, 905, 877, 1340, 1344, 1336, 917, 913, 1352, 1348, 930, 926, 922, 1360, 1356, 944, 939, 935, 1364] : List Nat).map (fun i => lw_tbl[i]?) = (List.range 29).map (fun j => some (Cond.code (am_yn (174 + j)) (am_by (174 + j)) (am_mx (174 + j)) (am_rt (174 + j)))) := by rfl
set_option maxRecDepth 100000 in
theorem cw_203 : ([948, 1368, 955, 963, 959, 972, 967, 952, 1375, 1378, 1382, 1386, 1372, 981, 989, 985, 977, 1393, 1390, 1001, 997, 993, 1397, 1005, 1401, 1009, 1405, 1013, 1409] : List Nat).map (fun i => lw_tbl[i]?) = (List.range 29).map (fun j => some (Cond.code (am_yn (203 + j)) (am_by (203 + j)) (am_mx (203 + j)) (am_rt (203 + j)))) := by rfl
theorem am_cw_of {a n : Nat} {is : List Nat} (h : is.map (fun i => lw_tbl[i]?) = (List.range n).map (fun j => some (Cond.code (am_yn (a + j)) (am_by (a + j)) (am_mx (a + j)) (am_rt (a + j))))) {m : Nat} (h1 : a ≤ m) (h2 : m < a + n) : Cond.code (am_yn m) (am_by m) (am_mx m) (am_rt m) ∈ am_T := by
  have h3 := congrArg (fun l => l[m - a]?) h
  simp only [List.getElem?_map] at h3
  rw [List.getElem?_range (by omega)] at h3
  simp only [Option.map_some, show a + (m - a) = m by omega] at h3
  cases h4 : is[m - a]? with
  | none => rw [h4] at h3; cases h3
  | some i =>
    rw [h4] at h3
    exact List.mem_filter.mpr ⟨List.mem_of_getElem? (Option.some.inj h3), rfl⟩
theorem am_cw_ok (m : Nat) (h : m < 232) : Cond.code (am_yn m) (am_by m) (am_mx m) (am_rt m) ∈ am_T := by
  by_cases h29 : m < 29
  · exact am_cw_of cw_0 (by omega) (by omega)
  by_cases h58 : m < 58
  · exact am_cw_of cw_29 (by omega) (by omega)
  by_cases h87 : m < 87
  · exact am_cw_of cw_58 (by omega) (by omega)
  by_cases h116 : m < 116
  · exact am_cw_of cw_87 (by omega) (by omega)
  by_cases h145 : m < 145
  · exact am_cw_of cw_116 (by omega) (by omega)
  by_cases h174 : m < 174
  · exact am_cw_of cw_145 (by omega) (by omega)
  by_cases h203 : m < 203
  · exact am_cw_of cw_174 (by omega) (by omega)
  exact am_cw_of cw_203 (by omega) (by omega)
theorem mo_0 : ∀ j : Nat, j < 29 → c_mth (0 + j) = true := by decide +kernel
theorem mo_29 : ∀ j : Nat, j < 29 → c_mth (29 + j) = true := by decide +kernel
theorem mo_58 : ∀ j : Nat, j < 29 → c_mth (58 + j) = true := by decide +kernel
theorem mo_87 : ∀ j : Nat, j < 29 → c_mth (87 + j) = true := by decide +kernel
theorem mo_116 : ∀ j : Nat, j < 29 → c_mth (116 + j) = true := by decide +kernel
theorem mo_145 : ∀ j : Nat, j < 29 → c_mth (145 + j) = true := by decide +kernel
theorem mo_174 : ∀ j : Nat, j < 29 → c_mth (174 + j) = true := by decide +kernel
theorem mo_203 : ∀ j : Nat, j < 29 → c_mth (203 + j) = true := by decide +kernel
theorem am_mth_ok (m : Nat) (h : m < 232) : c_mth m = true := by
  by_cases h29 : m < 29
  · have := mo_0 (m - 0) (by omega)
    rwa [show 0 + (m - 0) = m by omega] at this
  by_cases h58 : m < 58
  · have := mo_29 (m - 29) (by omega)
    rwa [show 29 + (m - 29) = m by omega] at this
  by_cases h87 : m < 87
  · have := mo_58 (m - 58) (by omega)
    rwa [show 58 + (m - 58) = m by omega] at this
  by_cases h116 : m < 116
  · have := mo_87 (m - 87) (by omega)
    rwa [show 87 + (m - 87) = m by omega] at this
  by_cases h145 : m < 145
  · have := mo_116 (m - 116) (by omega)
    rwa [show 116 + (m - 116) = m by omega] at this
  by_cases h174 : m < 174
  · have := mo_145 (m - 145) (by omega)
    rwa [show 145 + (m - 145) = m by omega] at this
  by_cases h203 : m < 203
  · have := mo_174 (m - 174) (by omega)
    rwa [show 174 + (m - 174) = m by omega] at this
  by_cases h232 : m < 232
  · have := mo_203 (m - 203) (by omega)
    rwa [show 203 + (m - 203) = m by omega] at this
  exact absurd h h232
theorem am_sel_in {m : Nat} (h : lw_tbl[am_WS.getD m 0]? = some (.selects (am_yn m).cls (am_yn m) (am_yn m))) : Cond.selects (am_yn m).cls (am_yn m) (am_yn m) ∈ am_T := List.mem_filter.mpr ⟨List.mem_of_getElem? h, rfl⟩
theorem am_wr_good (m : Nat) (h : Cond.code (am_yn m) (am_by m) (am_mx m) (am_rt m) ∈ am_T) : GoodIn am_T (am_wr m) := by
  intro w hw
  have hin : w ∈ am_T := by
    rcases List.mem_cons.mp hw with e | e
    · rw [e]; exact h
    · exact e
  exact ⟨hin, good_of_word (List.mem_filter.mp hin).2⟩
theorem am_blind (g : am_G) (As : List am_V) (st : am_S) : FrameBlind (am_Pc g As st) := by
  intro a U f mk q
  obtain ⟨q0, q1, q2, k1, k2, k3, k4, k5, k6⟩ := q
  exact ⟨q0, q1, q2, va_K.moved (u := U) (U := U.calling f mk a) (Vm.Alike.refl U.vm) k1, fun x hx => va_Nw.same rfl rfl (k2 x hx), va_AO.moved (u := U) (U := U.calling f mk a) (Vm.Alike.refl U.vm) k3, va_AO.moved (u := U) (U := U.calling f mk a) (Vm.Alike.refl U.vm) k4, va_X.moved (u := U) (U := U.calling f mk a) (Vm.Alike.refl U.vm) k5, k6⟩
theorem am_SB_to {g : am_G} {s U : State} {H : Heap} {locs : List Loc} {n0 : Nat} (h : am_SB g s) (hsz : s.heap.size = g.1 + n0) (hS : va_S (fun q => g.1 ≤ q) s.heap H locs) (hU : U.heap = H) (hW : s.WarmedH U.vm) : am_SB g U := by
  obtain ⟨k1, k2, k3, k4, k5, k6⟩ := h
  refine ⟨va_K.moved hW.alike k1, fun x hx => va_Nw.warmM hW (k2 x hx), va_AO.moved hW.alike k3, va_AO.moved hW.alike k4, ?_, k6⟩
  rw [hU]
  exact (k5.kept (hS.2.1 _ (by omega) (Nat.not_le.mpr k6))).moved hW.alike
theorem am_callW {p : Program} {l : Launch} {e : Env} {R : Room} {s : State} {m : MethodId} {args a : Array Value} {below : List Frame} {meth : Method} {c : Code} {H : Heap} {locs : List Loc} {cells slots mc ms pc : Nat} {Q : State → Prop} {g : am_G} {rv : am_V} {st2 : am_S} {ls : Array Slot} {st0 rest : List Value}
    (hr : va_Run p l e R s m args below meth c H locs cells slots mc ms (F0 m pc ls st0) rest (am_Qc g rv st2 a) (fun q => g.1 ≤ q)) (hS : va_S (fun q => g.1 ≤ q) s.heap H locs)
    (kk : ∀ (H1 : Heap) (locs1 : List Loc), va_P g.2.1 vwCl (am_cv g st2) H1 → va_S (fun q => g.1 ≤ q) s.heap H1 locs1 → W p l e R s m args below meth c H1 locs1 (cells + mc) (slots + ms) Q (F0 m (pc + 3) ls ((am_ov g rv).toList ++ rest))) : W p l e R s m args below meth c H locs cells slots Q (F0 m pc ls st0) := by
  intro T hT X
  obtain ⟨v, st₀, t, T', L, h0, X', hL, e1, e2, ⟨hv, hP1, hz, hk⟩, st⟩ := hr T hT X
  have hv := Outcome.returned.inj hv
  subst hv
  rw [h0] at hz hk
  obtain ⟨t2, a1, b1⟩ := kk T'.heap (locs ++ L) (by rw [e1]; exact hP1)
    ⟨Nat.le_trans hS.1 (by rw [e1]; exact hz), fun q h1 h2 => by rw [e1, hk q (Nat.lt_of_lt_of_le h1 hS.1) h2]; exact hS.2.1 q h1 h2, fun q hq => by
      rcases List.mem_append.mp hq with h | h
      · exact hS.2.2 q h
      · exact hL q h⟩ T' rfl X'
  exact ⟨t2, st t2 a1, b1⟩
theorem am_pu_vs (g : am_G) (rv : am_V) (S : List am_V) : am_vs g (am_pu rv S) = (am_ov g rv).toList ++ am_vs g S := by
  unfold am_pu am_ov
  split <;> rfl
theorem am_split (g : am_G) (S : List am_V) (n : Nat) : am_vs g S = (am_vs g (S.take n).reverse).reverse ++ am_vs g (S.drop n) := by
  unfold am_vs
  rw [← List.map_reverse, List.reverse_reverse, ← List.map_append, List.take_append_drop]
def am_ik (k : Int) (idx : Nat) : Instr := if k = 0 ∨ k = 1 then .invokestatic idx else if k = 2 ∨ k = 3 then .invokevirtual idx else .invokespecial idx
def c_call (m i : Nat) (ps : List Int) : Bool := decide ((am_pa ps 0).toNat < 232) && am_dc m i (am_ik (am_pa ps 2) (am_pa ps 3).toNat) 3 && decide (am_fr (am_pa ps 0).toNat + 1 ≤ am_fr m) && decide (8 + (am_mx (am_pa ps 0).toNat + 11) + am_lc (am_pa ps 0).toNat ≤ am_lc m) && (if am_pa ps 2 = 0 ∨ am_pa ps 2 = 2 ∨ am_pa ps 2 = 4 then am_wd (am_pa ps 4).toNat (.methodLink (am_yn m).cls (am_pa ps 3).toNat (am_yn (am_pa ps 0).toNat)) else decide (((am_yn m).cls, (am_pa ps 3).toNat, am_yn (am_pa ps 0).toNat, "TornBag") ∈ am_NS)) && (if am_pa ps 2 = 0 ∨ am_pa ps 2 = 1 then decide (am_oc (am_pa ps 0).toNat = 99) else decide (am_oc (am_pa ps 0).toNat ≠ 99)) && decide ((am_pa ps 2 = 4 ∨ am_pa ps 2 = 5) ↔ (am_yn (am_pa ps 0).toNat).name = "<init>") && decide ((am_pa ps 2 = 4 ∨ am_pa ps 2 = 5) → am_rt (am_pa ps 0).toNat = none) && decide (0 ≤ am_pa ps 2) && decide (am_pa ps 2 ≤ 5)
theorem am_mon (m : MethodId) (pc : Nat) (ls : Array Slot) (S : List Value) : (F0 m pc ls S).monitorRoom = 0 := rfl
set_option maxHeartbeats 8000000 in
theorem g_call {mi i : Nat} {ps : List Int} (h : c_call mi i ps = true) : am_Go mi i (s_call ps) := by
  intro p l e R s m args below meth c Q g n0 cE C L S st r hc hf
  obtain ⟨hx, hb, hml, hown, hts, hini, hSB, hsz, hfr, hlc, hce, hsl, -⟩ := C
  simp only [c_call, Bool.and_eq_true, am_dc_iff, decide_eq_true_eq] at h
  obtain ⟨⟨⟨⟨⟨⟨⟨⟨⟨hm', hd⟩, hF⟩, hLo⟩, hlk⟩, hoc⟩, hii⟩, hir⟩, k0⟩, k5⟩ := h
  have hmt := am_mth_ok _ hm'
  simp only [c_mth, Bool.and_eq_true, decide_eq_true_eq] at hmt
  obtain ⟨⟨⟨⟨⟨w2, w3⟩, w4⟩, w5⟩, w6⟩, w7⟩ := hmt
  have w1 := am_cw_ok _ hm'
  unfold s_call at hf
  split at hf
  · next hok =>
    obtain ⟨hw8, hck⟩ := hok
    cases hf
    refine ⟨fun q => absurd q (by show ¬ (2 : Nat) = 0; decide), fun q => absurd q (by show ¬ (2 : Nat) = 1; decide), fun _ rv st2 hM hcE hst K ls H locs hl hP hS hn => ?_⟩
    dsimp only at hM K
    generalize hmq : (am_pa ps 0).toNat = mq at *
    generalize hnq : (am_pa ps 1).toNat = nq at *
    have hsp := am_split g S nq
    generalize hAs : (S.take nq).reverse = As at *
    generalize hRe : S.drop nq = Re at *
    have hm1 := am_sl_le hst
    have hm2 := am_sl_le hn
    have hm3 := am_sl_le hcE
    simp only [am_ck, Bool.and_eq_true, decide_eq_true_eq] at hck
    obtain ⟨hwid, hrc⟩ := hck
    have hlenA : As.length = (am_wi mq).length := by rw [← hwid, List.length_map]
    have hW8 : 2 * (F0 m (am_pc mi i) ls (am_vs g S)).monitorRoom + ((am_vs g Re).map fun v => v.category).sum ≤ 8 := by
      rw [am_mon, am_cat_s]
      simpa [am_w8] using hw8
    have hPc : ∀ U : State, H.size = g.1 + st.1 → U.heap = H → s.WarmedH U.vm → am_Pc g As st (am_vs g As).toArray U := fun U hH hU hW => ⟨rfl, by rw [hU]; exact hH, by rw [hU]; exact hP, am_SB_to hSB hsz hS hU hW⟩
    have hfit : st.1 - n0 + (st2.1 - st.1) ≤ R.cells ∧ am_sl st.1 - am_sl n0 + (am_sl st2.1 - am_sl st.1) ≤ R.slots := ⟨by omega, by omega⟩
    have hR : (am_rm mq st st2).frames + 1 ≤ R.frames ∧ 8 + (am_mx mq + 11) + (am_rm mq st st2).locals ≤ R.locals := ⟨by show am_fr mq + 1 ≤ _; omega, by show 8 + (am_mx mq + 11) + am_lc mq ≤ _; omega⟩
    have hG := am_wr_good mq w1
    have hS9 : CallFix p m c (am_by mi) (am_mx mi) s args am_T (am_yn mi).cls := ⟨hx, hb, hml, hown, hts⟩
    have hend : va_Run p l e R s m args below meth c H locs (st.1 - n0) (am_sl st.1 - am_sl n0) (st2.1 - st.1) (am_sl st2.1 - am_sl st.1) (F0 m (am_pc mi i) ls (am_vs g S)) (am_vs g Re) (am_Qc g rv st2 (am_vs g As).toArray) (fun q => g.1 ≤ q) → W p l e R s m args below meth c H locs (st.1 - n0) (am_sl st.1 - am_sl n0) Q (F0 m (am_pc mi i) ls (am_vs g S)) := by
      intro hrun
      refine am_callW hrun hS (fun H1 locs1 hP1 hS1 => ?_)
      have K := K ls H1 locs1 hl hP1 hS1 (by omega)
      rw [hd.2, am_pu_vs] at K
      rw [show st.1 - n0 + (st2.1 - st.1) = st2.1 - n0 by omega, show am_sl st.1 - am_sl n0 + (am_sl st2.1 - am_sl st.1) = am_sl st2.1 - am_sl n0 by omega]
      exact K
    refine am_W_size hsz hn hP hS (fun hH => hend ?_)
    by_cases hk01 : am_pa ps 2 = 0 ∨ am_pa ps 2 = 1
    · -- static
      rw [if_pos hk01] at hoc
      have hoc := decide_eq_true_eq.mp hoc
      rw [if_pos hoc] at w6
      simp only [Bool.and_eq_true, decide_eq_true_eq] at w6
      have hdg : decode (am_by mi) (am_pc mi i) = .ok (.invokestatic (am_pa ps 3).toNat, 3) := by rw [hd.1, am_ik, if_pos hk01]
      have hlenV : (am_vs g As).length = (am_wi mq).length := by unfold am_vs; rw [List.length_map]; exact hlenA
      rcases hk01 with hk | hk
      · rw [if_pos (Or.inl hk)] at hlk
        exact va_runS (As := am_vs g As) (rest := am_vs g Re) hS9 hM ⟨callB_of (ws := am_wr mq) (am_wi mq).length hts hG rfl rfl rfl (hts _ (am_wd_in w2)) (hts _ (am_wd_in hlk)) ⟨w4, w5, w6.2⟩ hR, hts _ (am_wd_in w6.1)⟩ ⟨am_blind g As st, fun U hU hW => hPc U hH hU hW⟩ rfl hlenV hl.1 hsp hW8 hdg hfit
      · rw [if_neg (by omega)] at hlk
        have hlk := decide_eq_true_eq.mp hlk
        exact va_runSN (As := am_vs g As) (rest := am_vs g Re) hS9 hM ⟨va_cnB (ws := am_wr mq) (am_wi mq).length hts hG rfl rfl rfl (hSB.2.1 _ hlk) (hts _ (am_wd_in w2)) ⟨w4, w5, w6.2⟩ hR, hts _ (am_wd_in w6.1), trivial⟩ ⟨am_blind g As st, fun U hU hW => hPc U hH hU hW⟩ rfl hlenV hl.1 hsp hW8 hdg hfit
    · rw [if_neg hk01] at hoc
      have hoc := decide_eq_true_eq.mp hoc
      rw [if_neg hoc] at w6
      simp only [Bool.and_eq_true, decide_eq_true_eq] at w6
      obtain ⟨⟨⟨⟨w61, w62⟩, w63⟩, w64⟩, w65⟩ := w6
      simp only [Bool.or_eq_true, beq_iff_eq, hoc, false_or] at hrc
      cases As with
      | nil => cases hrc
      | cons v As2 =>
        dsimp only at hrc
        simp only [Bool.and_eq_true, beq_iff_eq] at hrc
        obtain ⟨hv1, hv2⟩ := hrc
        obtain ⟨vt, vx⟩ := v
        dsimp only at hv1 hv2
        subst hv1
        obtain ⟨i1, i2, i3⟩ := am_is_iff.mp hv2
        have hvs : am_vs g ((2, vx) :: As2) = .ref (g.1 + vx.toNat) :: am_vs g As2 := am_vP0 _ _ i3
        have hlenV : (am_vs g As2).length + 1 = (am_wi mq).length := by unfold am_vs; rw [List.length_map, ← hlenA]; rfl
        have hstk : (F0 m (am_pc mi i) ls (am_vs g S)).stack = (am_vs g As2).reverse ++ .ref (g.1 + vx.toNat) :: am_vs g Re := by
          show am_vs g S = _
          rw [hsp, hvs]
          simp
        have hpar : (parseMethodDescriptor (am_yn mq).desc).map (fun d => d.parameters.length) = some (am_vs g As2).length := by
          cases hpd : parseMethodDescriptor (am_yn mq).desc with
          | none => rw [hpd] at w62; cases w62
          | some d =>
            rw [hpd] at w62
            have := Option.some.inj w62
            dsimp only at this
            simp only [Option.map_some]
            congr 1
            omega
        rw [hvs] at hPc ⊢
        by_cases hk23 : am_pa ps 2 = 2 ∨ am_pa ps 2 = 3
        · have hdg : decode (am_by mi) (am_pc mi i) = .ok (.invokevirtual (am_pa ps 3).toNat, 3) := by rw [hd.1, am_ik, if_neg hk01, if_pos hk23]
          have hnin : ¬ (am_yn mq).name = "<init>" := fun z => by have := hii.mpr z; omega
          have hsel := hts _ (am_sel_in (w65.resolve_left hnin))
          obtain ⟨Cq, hcq⟩ : ∃ Cq, vwCl[am_oc mq]? = some Cq := by
            cases hz : vwCl[am_oc mq]? with
            | none => rw [hz] at w64; cases w64
            | some z => exact ⟨z, rfl⟩
          have hCn : Cq.1 = (am_yn mq).cls := by rw [hcq] at w64; exact Option.some.inj w64
          have he := am_cv_at (g := g) i1
          rw [am_ce_o i3 i2 w63] at he
          have hrv := va_recv hSB.1 hP hcq he
          rw [hCn] at hrv
          rcases hk23 with hk | hk
          · rw [if_pos (Or.inr (Or.inl hk))] at hlk
            exact va_runV (As := am_vs g As2) (rest := am_vs g Re) hS9 hM ⟨callB_of (ws := am_wr mq) (am_vs g As2).length hts hG rfl rfl rfl (hts _ (am_wd_in w2)) (hts _ (am_wd_in hlk)) ⟨w4, w5, hpar⟩ hR, hts _ (am_wd_in w61), hsel⟩ ⟨am_blind g _ st, hrv, fun U hU hW => hPc U hH hU hW⟩ rfl rfl hl.1 hstk hW8 hdg hfit
          · rw [if_neg (by omega)] at hlk
            have hlk := decide_eq_true_eq.mp hlk
            exact va_runVN (As := am_vs g As2) (rest := am_vs g Re) hS9 hM ⟨va_cnB (ws := am_wr mq) (am_vs g As2).length hts hG rfl rfl rfl (hSB.2.1 _ hlk) (hts _ (am_wd_in w2)) ⟨w4, w5, hpar⟩ hR, hts _ (am_wd_in w61), hsel⟩ ⟨am_blind g _ st, hrv, fun U hU hW => hPc U hH hU hW⟩ rfl rfl hl.1 hstk hW8 hdg hfit
        · have hdg : decode (am_by mi) (am_pc mi i) = .ok (.invokespecial (am_pa ps 3).toNat, 3) := by rw [hd.1, am_ik, if_neg hk01, if_neg hk23]
          have hk45 : am_pa ps 2 = 4 ∨ am_pa ps 2 = 5 := by omega
          have hnm := hii.mp hk45
          have hrt := hir hk45
          have hwr : am_wr mq = .code (am_yn mq) (am_by mq) (am_mx mq) none :: am_T := by rw [am_wr, hrt]
          rcases hk45 with hk | hk
          · rw [if_pos (Or.inr (Or.inr hk))] at hlk
            exact va_runI (As := am_vs g As2) (rest := am_vs g Re) hS9 hM ⟨callB_of (ws := am_wr mq) (am_vs g As2).length hts hG hwr rfl rfl (hts _ (am_wd_in w2)) (hts _ (am_wd_in hlk)) ⟨w4, w5, hpar⟩ hR, hnm, hts _ (am_wd_in w61)⟩ ⟨am_blind g _ st, fun U hU hW => hPc U hH hU hW⟩ rfl rfl hl.1 hstk hW8 hdg hfit
          · rw [if_neg (by omega)] at hlk
            have hlk := decide_eq_true_eq.mp hlk
            exact va_runIN (As := am_vs g As2) (rest := am_vs g Re) hS9 hM ⟨va_cnB (ws := am_wr mq) (am_vs g As2).length hts hG hwr rfl rfl (hSB.2.1 _ hlk) (hts _ (am_wd_in w2)) ⟨w4, w5, hpar⟩ hR, hnm, hts _ (am_wd_in w61)⟩ ⟨am_blind g _ st, fun U hU hW => hPc U hH hU hW⟩ rfl rfl hl.1 hstk hW8 hdg hfit
  · cases hf
def c_mx (m i : Nat) (ps : List Int) : Bool := am_dc m i (.invokestatic (am_pa ps 0).toNat) 3 && decide (1 ≤ am_fr m) && decide (21 ≤ am_lc m) && am_wd (am_pa ps 1).toNat (.methodLink (am_yn m).cls (am_pa ps 0).toNat Lib.Math.max.name) && am_wd 521 (.static Lib.Math.max.name) && am_wd 69 (.initialized "java/lang/Math") && am_wd 522 (.code Lib.Math.max.name Lib.Math.max.code 2 (some .int))
def c_mn (m i : Nat) (ps : List Int) : Bool := am_dc m i (.invokestatic (am_pa ps 0).toNat) 3 && decide (1 ≤ am_fr m) && decide (21 ≤ am_lc m) && am_wd (am_pa ps 1).toNat (.methodLink (am_yn m).cls (am_pa ps 0).toNat Lib.Math.min.name) && am_wd 588 (.static Lib.Math.min.name) && am_wd 69 (.initialized "java/lang/Math") && am_wd 589 (.code Lib.Math.min.name Lib.Math.min.code 2 (some .int))
theorem g_mx {mi i : Nat} {ps : List Int} (h : c_mx mi i ps = true) : am_Go mi i s_mx := by
  intro p l e R s m args below meth c Q g n0 cE C L S st r hc hf
  obtain ⟨hx, hb, hml, hown, hts, hini, hSB, hsz, hfr, hlc, hce, hsl, -⟩ := C
  simp only [c_mx, Bool.and_eq_true, am_dc_iff, decide_eq_true_eq] at h
  obtain ⟨⟨⟨⟨⟨⟨hd, h1⟩, h2⟩, h3⟩, h4⟩, h5⟩, h6⟩ := h
  unfold s_mx at hf
  split at hf
  · next b a S' =>
    split at hf
    · next h8 =>
      unfold am_nx at hf
      cases hf
      refine Sp0 (fun hcE K ls H locs hl hP hS hn => ?_)
      have K := K ls H locs hl hP hS hn
      have ra : r3 a := (Ca_hd (Ca_tl hc)).1 rfl
      have rb : r3 b := (Ca_hd hc).1 rfl
      have hm1 := am_sl_le hcE
      have h8 : (S'.map am_cat).sum ≤ 8 := by simpa [am_w8] using h8
      rw [hd.2, am_vI] at K
      rw [am_vI, am_vI]
      refine va_mmax hx hb (hml.trans hl.1.symm) hown (hts _ (am_wd_in h3)) (hts _ (am_wd_in h4)) (hts _ (am_wd_in h5)) (hts _ (am_wd_in h6)) (by omega) (by rw [am_cat_s]; omega) (by omega) (by omega) hd.1 ?_
      by_cases hab : a < b
      · rw [if_pos ((am_l3 ra rb).mpr hab)]
        rw [if_pos hab] at K
        exact K
      · rw [if_neg (fun z => hab ((am_l3 ra rb).mp z))]
        rw [if_neg hab] at K
        exact K
    · cases hf
  · cases hf
theorem g_mn {mi i : Nat} {ps : List Int} (h : c_mn mi i ps = true) : am_Go mi i s_mn := by
  intro p l e R s m args below meth c Q g n0 cE C L S st r hc hf
  obtain ⟨hx, hb, hml, hown, hts, hini, hSB, hsz, hfr, hlc, hce, hsl, -⟩ := C
  simp only [c_mn, Bool.and_eq_true, am_dc_iff, decide_eq_true_eq] at h
  obtain ⟨⟨⟨⟨⟨⟨hd, h1⟩, h2⟩, h3⟩, h4⟩, h5⟩, h6⟩ := h
  unfold s_mn at hf
  split at hf
  · next b a S' =>
    split at hf
    · next h8 =>
      unfold am_nx at hf
      cases hf
      refine Sp0 (fun hcE K ls H locs hl hP hS hn => ?_)
      have K := K ls H locs hl hP hS hn
      have ra : r3 a := (Ca_hd (Ca_tl hc)).1 rfl
      have rb : r3 b := (Ca_hd hc).1 rfl
      have hm1 := am_sl_le hcE
      have h8 : (S'.map am_cat).sum ≤ 8 := by simpa [am_w8] using h8
      rw [hd.2, am_vI] at K
      rw [am_vI, am_vI]
      refine va_mmin hx hb (hml.trans hl.1.symm) hown (hts _ (am_wd_in h3)) (hts _ (am_wd_in h4)) (hts _ (am_wd_in h5)) (hts _ (am_wd_in h6)) (by omega) (by rw [am_cat_s]; omega) (by omega) (by omega) hd.1 ?_
      by_cases hab : b < a
      · rw [if_pos ((am_l3 rb ra).mpr hab)]
        rw [if_pos hab] at K
        exact K
      · rw [if_neg (fun z => hab ((am_l3 rb ra).mp z))]
        rw [if_neg hab] at K
        exact K
    · cases hf
  · cases hf
def c_oini (m i : Nat) (ps : List Int) : Bool := am_dc m i (.invokespecial (am_pa ps 0).toNat) 3 && decide (1 ≤ am_fr m) && decide (20 ≤ am_lc m) && am_wd (am_pa ps 1).toNat (.methodLink (am_yn m).cls (am_pa ps 0).toNat Lib.objectInit) && am_wd 79 (.instanceMethod Lib.objectInit) && am_wd 80 (.code Lib.objectInit ⟨#[0xb1]⟩ 1 none)
theorem g_oini {mi i : Nat} {ps : List Int} (h : c_oini mi i ps = true) : am_Go mi i s_oini := by
  intro p l e R s m args below meth c Q g n0 cE C L S st r hc hf
  obtain ⟨hx, hb, hml, hown, hts, hini, hSB, hsz, hfr, hlc, hce, hsl, -⟩ := C
  simp only [c_oini, Bool.and_eq_true, am_dc_iff, decide_eq_true_eq] at h
  obtain ⟨⟨⟨⟨⟨hd, h1⟩, h2⟩, h3⟩, h4⟩, h5⟩ := h
  unfold s_oini at hf
  split at hf
  · next x S' =>
    split at hf
    · next h8 =>
      unfold am_nx at hf
      cases hf
      refine Sp0 (fun hcE K ls H locs hl hP hS hn => ?_)
      have K := K ls H locs hl hP hS hn
      have h8 : (S'.map am_cat).sum ≤ 8 := by simpa [am_w8] using h8
      rw [hd.2] at K
      rw [am_vP]
      exact W.objInit hx hb hown (hts _ (am_wd_in h3)) (hts _ (am_wd_in h4)) (hts _ (am_wd_in h5)) rfl (hl.1.trans hml.symm) rfl hd.1 (by omega) (by rw [am_mon, am_cat_s]; omega) K
    · cases hf
  · cases hf
theorem am_cpy_20 {g : am_G} {st : am_S} {s sp d dp n : Int} (j2 : (am_lay d).1 = 20) (j3 : 0 ≤ d) (h0 : 0 ≤ n) (h1 : 0 ≤ sp) (h2 : 0 ≤ dp) :
    (am_cv g st).set d.toNat (g.1 + d.toNat, .inl (g.2.2.1.1, (am_lay d).2, .inl (va_cpy (fun j : Nat => Int32.ofInt (st.2.2 s j)) (fun j : Nat => Int32.ofInt (st.2.2 d j)) sp.toNat dp.toNat n.toNat))) = am_cv g (st.1, st.2.1, cpy st.2.2 s sp d dp n) := by
  have h := am_cv_set (g := g) (st := st) (st' := (st.1, st.2.1, cpy st.2.2 s sp d dp n)) (c := d.toNat) rfl (fun c' hc => am_ce_h (by funext k; simp only [cpy]; rw [if_neg (by omega)]) rfl)
  rw [am_ce_20 j3 j2] at h
  rw [← h]
  congr 6
  funext j
  try dsimp only
  unfold va_cpy cpy
  by_cases hj : dp.toNat ≤ j ∧ j < dp.toNat + n.toNat
  · have e : ((sp.toNat + (j - dp.toNat) : Nat) : Int) = sp + ((j : Int) - dp) := by omega
    have hj2 : d = d ∧ dp ≤ (j : Int) ∧ (j : Int) < dp + n := ⟨rfl, by omega, by omega⟩
    rw [if_pos hj, if_pos hj2]
    dsimp only
    rw [e]
  · rw [if_neg hj, if_neg (by omega)]
theorem am_cpy_21 {g : am_G} {st : am_S} {s sp d dp n : Int} (j2 : (am_lay d).1 = 21) (j3 : 0 ≤ d) (h0 : 0 ≤ n) (h1 : 0 ≤ sp) (h2 : 0 ≤ dp) :
    (am_cv g st).set d.toNat (g.1 + d.toNat, .inl (g.2.2.1.2.1, (am_lay d).2, .inr (.inl (va_cpy (fun j : Nat => Int64.ofInt (st.2.2 s j)) (fun j : Nat => Int64.ofInt (st.2.2 d j)) sp.toNat dp.toNat n.toNat)))) = am_cv g (st.1, st.2.1, cpy st.2.2 s sp d dp n) := by
  have h := am_cv_set (g := g) (st := st) (st' := (st.1, st.2.1, cpy st.2.2 s sp d dp n)) (c := d.toNat) rfl (fun c' hc => am_ce_h (by funext k; simp only [cpy]; rw [if_neg (by omega)]) rfl)
  rw [am_ce_21 j3 j2] at h
  rw [← h]
  congr 7
  funext j
  try dsimp only
  unfold va_cpy cpy
  by_cases hj : dp.toNat ≤ j ∧ j < dp.toNat + n.toNat
  · have e : ((sp.toNat + (j - dp.toNat) : Nat) : Int) = sp + ((j : Int) - dp) := by omega
    have hj2 : d = d ∧ dp ≤ (j : Int) ∧ (j : Int) < dp + n := ⟨rfl, by omega, by omega⟩
    rw [if_pos hj, if_pos hj2]
    dsimp only
    rw [e]
  · rw [if_neg hj, if_neg (by omega)]
def c_acpy (m i : Nat) (ps : List Int) : Bool := am_dc m i (.invokestatic (am_pa ps 0).toNat) 3 && decide (1 ≤ am_fr m) && decide (40 ≤ am_lc m) && am_wd (am_pa ps 1).toNat (.methodLink (am_yn m).cls (am_pa ps 0).toNat arraycopyName) && am_wd 592 (.native arraycopyName) && am_wd 591 (.static arraycopyName) && am_wd 71 (.initialized "java/lang/System")
theorem am_nl3 {x : Int} (h : r3 x) (h0 : 0 ≤ x) : ¬ Int32.ofInt x < 0 := by
  rw [show (0 : Int32) = Int32.ofInt 0 from rfl, am_l3 h r3_0]
  omega
set_option maxHeartbeats 4000000 in
theorem g_acpy {mi i : Nat} {ps : List Int} (h : c_acpy mi i ps = true) : am_Go mi i s_acpy := by
  intro p l e R s m args below meth c Q g n0 cE C L S st r hc hf
  obtain ⟨hx, hb, hml, hown, hts, hini, hSB, hsz, hfr, hlc, hce, hsl, -⟩ := C
  simp only [c_acpy, Bool.and_eq_true, am_dc_iff, decide_eq_true_eq] at h
  obtain ⟨⟨⟨⟨⟨⟨hd, h1⟩, h2⟩, h3⟩, h4⟩, h5⟩, h6⟩ := h
  unfold s_acpy at hf
  split at hf
  · next n dp dd sp ss S' =>
    split at hf
    · next hk =>
      obtain ⟨hk, q0, q1, q2, q3, q4, h8⟩ := hk
      unfold am_nx at hf
      cases hf
      refine Sp0 (fun hcE K ls H locs hl hP hS hn => ?_)
      have h8 : (S'.map am_cat).sum ≤ 8 := by simpa [am_w8] using h8
      have rn : r3 n := (Ca_hd hc).1 rfl
      have rd : r3 dp := (Ca_hd (Ca_tl hc)).1 rfl
      have rs : r3 sp := (Ca_hd (Ca_tl (Ca_tl (Ca_tl hc)))).1 rfl
      have hlo : ((am_vs g S').map fun v => v.category).sum + (nativeFrameWords "java/lang/System" "arraycopy" 5 + 11) ≤ R.locals := by
        rw [am_cat_s, show nativeFrameWords "java/lang/System" "arraycopy" 5 = 7 from by decide]
        omega
      rcases hk with ⟨hs, hdk⟩ | ⟨hs, hdk⟩
      · obtain ⟨i1, i2, i3⟩ := am_is_iff.mp hs
        obtain ⟨j1, j2, j3⟩ := am_is_iff.mp hdk
        rw [am_vI, am_vI, am_vP0 _ _ j3, am_vI, am_vP0 _ _ i3]
        have he := am_cv_at (g := g) i1
        rw [am_ce_20 i3 i2] at he
        have hw := am_cv_at (g := g) j1
        rw [am_ce_20 j3 j2] at hw
        refine va_copyi (A := fun q => g.1 ≤ q) (ty := .int) hx hb (hml.trans hl.1.symm) hown (hts _ (am_wd_in h3)) (hts _ (am_wd_in h4)) (hts _ (am_wd_in h5)) (hts _ (am_wd_in h6)) hSB.1 hP am_cv_D hS ss.toNat dd.toNat 0 0 he hw rfl rfl rfl (am_nl3 rs q1) (am_nl3 rd q2) (am_nl3 rn q0) (by rw [am_clamp rs, am_clamp rn]; omega) (by rw [am_clamp rd, am_clamp rn]; omega) (fun _ _ => rfl) (by omega) hlo hd.1 (fun H1 locs1 hP1 hD1 hS1 => ?_)
        rw [am_clamp rs, am_clamp rd, am_clamp rn, am_cpy_20 j2 j3 q0 q1 q2] at hP1
        have K := K ls H1 locs1 hl hP1 hS1 hn
        rw [hd.2] at K
        exact K
      · obtain ⟨i1, i2, i3⟩ := am_is_iff.mp hs
        obtain ⟨j1, j2, j3⟩ := am_is_iff.mp hdk
        rw [am_vI, am_vI, am_vP0 _ _ j3, am_vI, am_vP0 _ _ i3]
        have he := am_cv_at (g := g) i1
        rw [am_ce_21 i3 i2] at he
        have hw := am_cv_at (g := g) j1
        rw [am_ce_21 j3 j2] at hw
        refine va_copyl (A := fun q => g.1 ≤ q) hx hb (hml.trans hl.1.symm) hown (hts _ (am_wd_in h3)) (hts _ (am_wd_in h4)) (hts _ (am_wd_in h5)) (hts _ (am_wd_in h6)) hSB.1 hP am_cv_D hS ss.toNat dd.toNat 1 1 he hw rfl rfl rfl (am_nl3 rs q1) (am_nl3 rd q2) (am_nl3 rn q0) (by rw [am_clamp rs, am_clamp rn]; omega) (by rw [am_clamp rd, am_clamp rn]; omega) (fun _ _ => rfl) (by omega) hlo hd.1 (fun H1 locs1 hP1 hD1 hS1 => ?_)
        rw [am_clamp rs, am_clamp rd, am_clamp rn, am_cpy_21 j2 j3 q0 q1 q2] at hP1
        have K := K ls H1 locs1 hl hP1 hS1 hn
        rw [hd.2] at K
        exact K
    · cases hf
  · cases hf
end
section
def am_P (g : am_G) (st : am_S) (r : am_R) : Prop := am_Ca g r.2.2.1 r.2.2.2.1 r.2.2.2.2 ∧ st.1 ≤ r.2.2.2.2.1
def am_rb (v : Int) : Bool := decide (-2147483648 ≤ v) && decide (v < 2147483648)
def am_rl (v : Int) : Bool := decide (-9223372036854775808 ≤ v) && decide (v < 9223372036854775808)
theorem am_rb_iff {v : Int} : am_rb v = true ↔ r3 v := by simp [am_rb, r3]
theorem am_rl_iff {v : Int} : am_rl v = true ↔ r6 v := by simp [am_rl, r6]
section CN
variable {g : am_G} {L S : List am_V} {st : am_S} {r : am_R} {ps : List Int}
theorem Pn {L' S' : List am_V} {st' : am_S} {k t : Nat} (h : am_Ca g L' S' st') (hn : st.1 ≤ st'.1) : am_P g st (k, t, L', S', st') := ⟨h, hn⟩
theorem cn_cst (hv : am_rb (am_pa ps 0) = true) (hf : s_cst ps L S st = some r) (hc : am_Ca g L S st) : am_P g st r := by
  unfold s_cst am_nx at hf
  cases hf
  exact Pn (Ca_cons hc ⟨fun _ => am_rb_iff.mp hv, (fun h => nomatch h)⟩) (Nat.le_refl _)
theorem cn_lcst (hv : am_rl (am_pa ps 0) = true) (hf : s_lcst ps L S st = some r) (hc : am_Ca g L S st) : am_P g st r := by
  unfold s_lcst am_nx at hf
  cases hf
  exact Pn (Ca_cons hc ⟨(fun h => nomatch h), fun _ => am_rl_iff.mp hv⟩) (Nat.le_refl _)
theorem cn_ld {t : Nat} (hf : s_ld t ps L S st = some r) (hc : am_Ca g L S st) : am_P g st r := by
  unfold s_ld at hf
  split at hf
  · next v hv =>
    split at hf
    · unfold am_nx at hf
      cases hf
      exact Pn (Ca_cons hc (hc.1 v (List.mem_of_getElem? hv))) (Nat.le_refl _)
    · cases hf
  · cases hf
theorem Ca_set {k : Nat} {v : am_V} (hc : am_Ca g L S st) (hv : am_v3 v) : am_Ca g (L.set k v) S st := ⟨fun x hx => by
  rcases List.mem_or_eq_of_mem_set hx with h | h
  · exact hc.1 x h
  · rw [h]; exact hv, hc.2⟩
theorem cn_st {t : Nat} (hf : s_st t ps L S st = some r) (hc : am_Ca g L S st) : am_P g st r := by
  unfold s_st at hf
  split at hf
  · split at hf
    · unfold am_nx at hf
      cases hf
      exact Pn (Ca_set (Ca_tl hc) (Ca_hd hc)) (Nat.le_refl _)
    · cases hf
  · cases hf
theorem cn_inc (hf : s_inc ps L S st = some r) (hc : am_Ca g L S st) : am_P g st r := by
  unfold s_inc at hf
  split at hf
  · split at hf
    · unfold am_nx at hf
      cases hf
      exact Pn (Ca_set hc (v3_i _)) (Nat.le_refl _)
    · cases hf
  · cases hf
theorem cn_bin {f : Int32 → Int32 → Int32} (hf : s_bin f L S st = some r) (hc : am_Ca g L S st) : am_P g st r := by
  unfold s_bin at hf
  split at hf
  · unfold am_nx at hf
    cases hf
    exact Pn (Ca_cons (Ca_tl (Ca_tl hc)) (v3_i _)) (Nat.le_refl _)
  · cases hf
theorem cn_bin0 {f : Int32 → Int32 → Int32} (hf : s_bin0 f L S st = some r) (hc : am_Ca g L S st) : am_P g st r := by
  unfold s_bin0 at hf
  split at hf
  · split at hf
    · cases hf
    · unfold am_nx at hf
      cases hf
      exact Pn (Ca_cons (Ca_tl (Ca_tl hc)) (v3_i _)) (Nat.le_refl _)
  · cases hf
theorem cn_un {f : Int32 → Int32} (hf : s_un f L S st = some r) (hc : am_Ca g L S st) : am_P g st r := by
  unfold s_un at hf
  split at hf
  · unfold am_nx at hf
    cases hf
    exact Pn (Ca_cons (Ca_tl hc) (v3_i _)) (Nat.le_refl _)
  · cases hf
theorem cn_lbin {f : Int64 → Int64 → Int64} (hf : s_lbin f L S st = some r) (hc : am_Ca g L S st) : am_P g st r := by
  unfold s_lbin at hf
  split at hf
  · unfold am_nx at hf
    cases hf
    exact Pn (Ca_cons (Ca_tl (Ca_tl hc)) (v3_l _)) (Nat.le_refl _)
  · cases hf
theorem cn_lsh {f : Int64 → Int32 → Int64} (hf : s_lsh f L S st = some r) (hc : am_Ca g L S st) : am_P g st r := by
  unfold s_lsh at hf
  split at hf
  · unfold am_nx at hf
    cases hf
    exact Pn (Ca_cons (Ca_tl (Ca_tl hc)) (v3_l _)) (Nat.le_refl _)
  · cases hf
theorem cn_lcmp (hf : s_lcmp L S st = some r) (hc : am_Ca g L S st) : am_P g st r := by
  unfold s_lcmp at hf
  split at hf
  · unfold am_nx at hf
    cases hf
    exact Pn (Ca_cons (Ca_tl (Ca_tl hc)) (v3_i _)) (Nat.le_refl _)
  · cases hf
theorem cn_i2l (hf : s_i2l L S st = some r) (hc : am_Ca g L S st) : am_P g st r := by
  unfold s_i2l at hf
  split at hf
  · unfold am_nx at hf
    cases hf
    exact Pn (Ca_cons (Ca_tl hc) (v3_l _)) (Nat.le_refl _)
  · cases hf
theorem cn_l2i (hf : s_l2i L S st = some r) (hc : am_Ca g L S st) : am_P g st r := by
  unfold s_l2i at hf
  split at hf
  · unfold am_nx at hf
    cases hf
    exact Pn (Ca_cons (Ca_tl hc) (v3_i _)) (Nat.le_refl _)
  · cases hf
theorem cn_pop (hf : s_pop L S st = some r) (hc : am_Ca g L S st) : am_P g st r := by
  unfold s_pop at hf
  split at hf
  · split at hf
    · unfold am_nx at hf
      cases hf
      exact Pn (Ca_tl hc) (Nat.le_refl _)
    · cases hf
  · cases hf
theorem cn_dup (hf : s_dup L S st = some r) (hc : am_Ca g L S st) : am_P g st r := by
  unfold s_dup at hf
  split at hf
  · split at hf
    · unfold am_nx at hf
      cases hf
      exact Pn (Ca_cons hc (Ca_hd hc)) (Nat.le_refl _)
    · cases hf
  · cases hf
theorem cn_dup2 (hf : s_dup2 L S st = some r) (hc : am_Ca g L S st) : am_P g st r := by
  unfold s_dup2 at hf
  split at hf
  · split at hf
    · unfold am_nx at hf
      cases hf
      exact Pn (Ca_cons (Ca_cons hc (Ca_hd (Ca_tl hc))) (Ca_hd hc)) (Nat.le_refl _)
    · cases hf
  · cases hf
theorem cn_ifc (hf : s_ifc ps L S st = some r) (hc : am_Ca g L S st) : am_P g st r := by
  unfold s_ifc am_jp am_nx at hf
  split at hf
  · split at hf <;> cases hf <;> exact Pn (Ca_tl hc) (Nat.le_refl _)
  · cases hf
theorem cn_icmp (hf : s_icmp ps L S st = some r) (hc : am_Ca g L S st) : am_P g st r := by
  unfold s_icmp am_jp am_nx at hf
  split at hf
  · split at hf <;> cases hf <;> exact Pn (Ca_tl (Ca_tl hc)) (Nat.le_refl _)
  · cases hf
theorem cn_goto (hf : s_goto ps L S st = some r) (hc : am_Ca g L S st) : am_P g st r := by
  unfold s_goto am_jp at hf
  cases hf
  exact Pn hc (Nat.le_refl _)
theorem cn_tsw (hf : s_tsw ps L S st = some r) (hc : am_Ca g L S st) : am_P g st r := by
  unfold s_tsw am_jp at hf
  split at hf
  · split at hf <;> cases hf <;> exact Pn (Ca_tl hc) (Nat.le_refl _)
  · cases hf
theorem cn_lsw (hf : s_lsw ps L S st = some r) (hc : am_Ca g L S st) : am_P g st r := by
  unfold s_lsw am_jp at hf
  split at hf
  · cases hf
    exact Pn (Ca_tl hc) (Nat.le_refl _)
  · cases hf
theorem cn_gI (h12 : (am_pa ps 0).toNat < 12) (hf : s_gI ps L S st = some r) (hc : am_Ca g L S st) : am_P g st r := by
  unfold s_gI at hf
  split at hf
  · split at hf
    · next his =>
      obtain ⟨i1, i2, i3⟩ := am_is_iff.mp his
      unfold am_nx at hf
      cases hf
      exact Pn (Ca_cons (Ca_tl hc) ⟨fun _ => hc.2.2.2.1 _ _ (by omega), (fun h => nomatch h)⟩) (Nat.le_refl _)
    · cases hf
  · cases hf
theorem cn_gR (hf : s_gR ps L S st = some r) (hc : am_Ca g L S st) : am_P g st r := by
  unfold s_gR at hf
  split at hf
  · split at hf
    · unfold am_nx at hf
      cases hf
      exact Pn (Ca_cons (Ca_tl hc) (v3_p _)) (Nat.le_refl _)
    · cases hf
  · cases hf
theorem cn_pI (hf : s_pI ps L S st = some r) (hc : am_Ca g L S st) : am_P g st r := by
  unfold s_pI at hf
  split at hf
  · split at hf
    · next his =>
      obtain ⟨i1, i2, i3⟩ := am_is_iff.mp his
      unfold am_nx at hf
      cases hf
      have rv := (Ca_hd hc).1 rfl
      exact Pn (Ca_st (Ca_tl (Ca_tl hc)) (Cs_up hc.2.2 i3 i1 (r3_6 rv) (fun _ => rv))) (Nat.le_refl _)
    · cases hf
  · cases hf
theorem cn_pZ (hf : s_pZ ps L S st = some r) (hc : am_Ca g L S st) : am_P g st r := by
  unfold s_pZ at hf
  split at hf
  · split at hf
    · next his =>
      obtain ⟨i1, i2, i3⟩ := am_is_iff.mp his.1
      unfold am_nx at hf
      cases hf
      have rv := (Ca_hd hc).1 rfl
      exact Pn (Ca_st (Ca_tl (Ca_tl hc)) (Cs_up hc.2.2 i3 i1 (r3_6 rv) (fun _ => rv))) (Nat.le_refl _)
    · cases hf
  · cases hf
theorem cn_pF (hf : s_pF ps L S st = some r) (hc : am_Ca g L S st) : am_P g st r := by
  unfold s_pF at hf
  split at hf
  · split at hf
    · next his =>
      obtain ⟨i1, i2, i3⟩ := am_is_iff.mp his.1
      unfold am_nx at hf
      cases hf
      exact Pn (Ca_st (Ca_tl (Ca_tl hc)) (Cs_ref hc.2.2 i3 i1)) (Nat.le_refl _)
    · cases hf
  · cases hf
theorem cn_iald (hf : s_iald L S st = some r) (hc : am_Ca g L S st) : am_P g st r := by
  unfold s_iald at hf
  split at hf
  · split at hf
    · split at hf
      · unfold am_nx at hf
        cases hf
        exact Pn (Ca_cons (Ca_tl (Ca_tl hc)) ⟨fun _ => hc.2.2.2.1 _ _ (by decide), (fun h => nomatch h)⟩) (Nat.le_refl _)
      · cases hf
    · split at hf
      · next his =>
        obtain ⟨i1, i2, i3⟩ := am_is_iff.mp his.1
        unfold am_nx at hf
        cases hf
        exact Pn (Ca_cons (Ca_tl (Ca_tl hc)) ⟨fun _ => hc.2.2.2.1 _ _ (by omega), (fun h => nomatch h)⟩) (Nat.le_refl _)
      · cases hf
  · cases hf
theorem cn_lald (hf : s_lald L S st = some r) (hc : am_Ca g L S st) : am_P g st r := by
  unfold s_lald at hf
  split at hf
  · split at hf
    · unfold am_nx at hf
      cases hf
      exact Pn (Ca_cons (Ca_tl (Ca_tl hc)) ⟨(fun h => nomatch h), fun _ => hc.2.2.1 _ _⟩) (Nat.le_refl _)
    · cases hf
  · cases hf
theorem cn_iast (hf : s_iast L S st = some r) (hc : am_Ca g L S st) : am_P g st r := by
  unfold s_iast at hf
  split at hf
  · split at hf
    · next his =>
      obtain ⟨i1, i2, i3⟩ := am_is_iff.mp his.1
      unfold am_nx at hf
      cases hf
      have rv := (Ca_hd hc).1 rfl
      exact Pn (Ca_st (Ca_tl (Ca_tl (Ca_tl hc))) (Cs_up hc.2.2 i3 i1 (r3_6 rv) (fun _ => rv))) (Nat.le_refl _)
    · cases hf
  · cases hf
theorem cn_last (hf : s_last L S st = some r) (hc : am_Ca g L S st) : am_P g st r := by
  unfold s_last at hf
  split at hf
  · split at hf
    · next his =>
      obtain ⟨i1, i2, i3⟩ := am_is_iff.mp his.1
      unfold am_nx at hf
      cases hf
      have rv := (Ca_hd hc).2 rfl
      exact Pn (Ca_st (Ca_tl (Ca_tl (Ca_tl hc))) (Cs_up hc.2.2 i3 i1 rv (fun z => absurd i2 z))) (Nat.le_refl _)
    · cases hf
  · cases hf
theorem cn_aald (hf : s_aald L S st = some r) (hc : am_Ca g L S st) : am_P g st r := by
  unfold s_aald at hf
  split at hf
  · split at hf
    · unfold am_nx at hf
      cases hf
      exact Pn (Ca_cons (Ca_tl (Ca_tl hc)) (v3_p _)) (Nat.le_refl _)
    · cases hf
  · cases hf
theorem cn_aast (hf : s_aast L S st = some r) (hc : am_Ca g L S st) : am_P g st r := by
  unfold s_aast at hf
  split at hf
  · split at hf
    · next his =>
      have : ∃ kd, am_is st _ kd = true := his.1.elim (fun h => ⟨_, h.1⟩) (fun h => ⟨_, h.1⟩)
      obtain ⟨kd, hk⟩ := this
      obtain ⟨i1, i2, i3⟩ := am_is_iff.mp hk
      unfold am_nx at hf
      cases hf
      exact Pn (Ca_st (Ca_tl (Ca_tl (Ca_tl hc))) (Cs_ref hc.2.2 i3 i1)) (Nat.le_refl _)
    · cases hf
  · cases hf
theorem am_ly_sm : ∀ q ∈ am_LY, q.2 < 2147483648 := by decide +kernel
theorem cn_alen (hf : s_alen L S st = some r) (hc : am_Ca g L S st) : am_P g st r := by
  unfold s_alen at hf
  split at hf
  · next cc S' =>
    split at hf
    · unfold am_nx at hf
      cases hf
      exact Pn (Ca_cons (Ca_tl hc) ⟨fun _ => hc.2.2.2.1 _ _ (by decide), (fun h => nomatch h)⟩) (Nat.le_refl _)
    · split at hf
      · next his =>
        have hs : (am_lay cc).2 < 2147483648 := by
          rcases his with h | h
          · exact am_ly_sm _ (am_lay_in (am_is_iff.mp h).2.1 (by decide))
          · exact am_ly_sm _ (am_lay_in (am_is_iff.mp h).2.1 (by decide))
        unfold am_nx at hf
        cases hf
        exact Pn (Ca_cons (Ca_tl hc) ⟨fun _ => ⟨by show (-2147483648 : Int) ≤ ((am_lay cc).2 : Int); omega, by show ((am_lay cc).2 : Int) < 2147483648; omega⟩, (fun h => nomatch h)⟩) (Nat.le_refl _)
      · cases hf
  · cases hf
theorem cn_narr (hf : s_narr ps L S st = some r) (hc : am_Ca g L S st) : am_P g st r := by
  unfold s_narr at hf
  split at hf
  · split at hf
    · unfold am_nx at hf
      cases hf
      exact Pn (Ca_st (Ca_cons (Ca_tl hc) (v3_p _)) (Cs_new hc.2.2)) (Nat.le_succ _)
    · cases hf
  · cases hf
theorem cn_anew (hf : s_anew ps L S st = some r) (hc : am_Ca g L S st) : am_P g st r := by
  unfold s_anew at hf
  split at hf
  · split at hf
    · unfold am_nx at hf
      cases hf
      exact Pn (Ca_st (Ca_cons (Ca_tl hc) (v3_p _)) (Cs_new hc.2.2)) (Nat.le_succ _)
    · cases hf
  · cases hf
theorem cn_new (hf : s_new ps L S st = some r) (hc : am_Ca g L S st) : am_P g st r := by
  unfold s_new at hf
  split at hf
  · unfold am_nx at hf
    cases hf
    exact Pn (Ca_st (Ca_cons hc (v3_p _)) (Cs_new hc.2.2)) (Nat.le_succ _)
  · cases hf
theorem cn_call (hf : s_call ps L S st = some r) (hc : am_Ca g L S st) : am_P g st r := by
  unfold s_call at hf
  split at hf
  · cases hf
    exact Pn ⟨fun v hv => hc.2.1 v (List.mem_of_mem_take (List.mem_reverse.mp hv)), fun v hv => hc.2.1 v (List.mem_of_mem_drop hv), hc.2.2⟩ (Nat.le_refl _)
  · cases hf
theorem cn_oini (hf : s_oini L S st = some r) (hc : am_Ca g L S st) : am_P g st r := by
  unfold s_oini at hf
  split at hf
  · split at hf
    · unfold am_nx at hf
      cases hf
      exact Pn (Ca_tl hc) (Nat.le_refl _)
    · cases hf
  · cases hf
theorem cn_acpy (hf : s_acpy L S st = some r) (hc : am_Ca g L S st) : am_P g st r := by
  unfold s_acpy at hf
  split at hf
  · next n dp dd sp ss S' =>
    split at hf
    · next hk =>
      obtain ⟨hk, -⟩ := hk
      have : dd.toNat < st.1 ∧ 0 ≤ dd ∧ (am_lay ss).1 = (am_lay dd).1 := by
        rcases hk with ⟨a, b⟩ | ⟨a, b⟩
        · obtain ⟨i1, i2, i3⟩ := am_is_iff.mp a
          obtain ⟨j1, j2, j3⟩ := am_is_iff.mp b
          exact ⟨j1, j3, by rw [i2, j2]⟩
        · obtain ⟨i1, i2, i3⟩ := am_is_iff.mp a
          obtain ⟨j1, j2, j3⟩ := am_is_iff.mp b
          exact ⟨j1, j3, by rw [i2, j2]⟩
      unfold am_nx at hf
      cases hf
      exact Pn (Ca_st (Ca_tl (Ca_tl (Ca_tl (Ca_tl (Ca_tl hc))))) (Cs_cpy hc.2.2 this.2.1 this.1 this.2.2)) (Nat.le_refl _)
    · cases hf
  · cases hf
theorem cn_mx (hf : s_mx L S st = some r) (hc : am_Ca g L S st) : am_P g st r := by
  unfold s_mx at hf
  split at hf
  · split at hf
    · unfold am_nx at hf
      cases hf
      refine Pn (Ca_cons (Ca_tl (Ca_tl hc)) ?_) (Nat.le_refl _)
      split
      · exact Ca_hd hc
      · exact Ca_hd (Ca_tl hc)
    · cases hf
  · cases hf
theorem cn_mn (hf : s_mn L S st = some r) (hc : am_Ca g L S st) : am_P g st r := by
  unfold s_mn at hf
  split at hf
  · split at hf
    · unfold am_nx at hf
      cases hf
      refine Pn (Ca_cons (Ca_tl (Ca_tl hc)) ?_) (Nat.le_refl _)
      split
      · exact Ca_hd hc
      · exact Ca_hd (Ca_tl hc)
    · cases hf
  · cases hf
theorem Ca_one {v : am_V} (hc : am_Cs g st) (hv : am_v3 v) : am_Ca g [v] [] st := ⟨fun x hx => by
  rcases List.mem_singleton.mp hx with rfl
  exact hv, (fun x hx => nomatch hx), hc⟩
theorem cn_iret (hf : s_iret L S st = some r) (hc : am_Ca g L S st) : am_P g st r := by
  unfold s_iret at hf
  split at hf
  · cases hf
    exact Pn (Ca_one hc.2.2 (Ca_hd hc)) (Nat.le_refl _)
  · cases hf
theorem cn_zret (hf : s_zret L S st = some r) (hc : am_Ca g L S st) : am_P g st r := by
  unfold s_zret at hf
  split at hf
  · split at hf
    · cases hf
      exact Pn (Ca_one hc.2.2 (Ca_hd hc)) (Nat.le_refl _)
    · cases hf
  · cases hf
theorem cn_lret (hf : s_lret L S st = some r) (hc : am_Ca g L S st) : am_P g st r := by
  unfold s_lret at hf
  split at hf
  · cases hf
    exact Pn (Ca_one hc.2.2 (Ca_hd hc)) (Nat.le_refl _)
  · cases hf
theorem cn_vret (hf : s_vret L S st = some r) (hc : am_Ca g L S st) : am_P g st r := by
  unfold s_vret at hf
  split at hf
  · cases hf
    exact Pn (Ca_one hc.2.2 ⟨(fun h => nomatch h), (fun h => nomatch h)⟩) (Nat.le_refl _)
  · cases hf
end CN

def am_chk (m i : Nat) (a : am_I) : Bool := match a.1 with
  | 0 => c_iconst m i a.2 && am_rb (am_pa a.2 0)
  | 1 => c_bpush m i a.2 && am_rb (am_pa a.2 0)
  | 2 => c_spush m i a.2 && am_rb (am_pa a.2 0)
  | 3 => c_ldc m i a.2 && am_rb (am_pa a.2 0)
  | 4 => c_ldcw m i a.2 && am_rb (am_pa a.2 0)
  | 5 => c_lconst m i a.2 && am_rl (am_pa a.2 0)
  | 6 => c_ldc2 m i a.2 && am_rl (am_pa a.2 0)
  | 7 => c_loc .iload_n .iload m i a.2
  | 8 => c_loc .aload_n .aload m i a.2
  | 9 => c_loc .lload_n .lload m i a.2
  | 10 => c_loc .istore_n .istore m i a.2
  | 11 => c_loc .astore_n .astore m i a.2
  | 12 => c_inc m i a.2
  | 13 => am_dc m i .iadd 1
  | 14 => am_dc m i .isub 1
  | 15 => am_dc m i .imul 1
  | 16 => am_dc m i .idiv 1
  | 17 => am_dc m i .irem 1
  | 18 => am_dc m i .ineg 1
  | 19 => am_dc m i .ishl 1
  | 20 => am_dc m i .ishr 1
  | 21 => am_dc m i .iushr 1
  | 22 => am_dc m i .iand 1
  | 23 => am_dc m i .ior 1
  | 24 => am_dc m i .ixor 1
  | 25 => am_dc m i .ladd 1
  | 26 => am_dc m i .lmul 1
  | 27 => am_dc m i .land 1
  | 28 => am_dc m i .lor 1
  | 29 => am_dc m i .lshl 1
  | 30 => am_dc m i .lshr 1
  | 31 => am_dc m i .lcmp 1
  | 32 => am_dc m i .i2l 1
  | 33 => am_dc m i .l2i 1
  | 34 => am_dc m i .i2b 1
  | 35 => am_dc m i .i2s 1
  | 36 => am_dc m i .pop 1
  | 37 => am_dc m i .dup 1
  | 38 => am_dc m i .dup2 1
  | 39 => c_ifc m i a.2
  | 40 => c_icmp m i a.2
  | 41 => c_goto m i a.2
  | 42 => c_tsw m i a.2
  | 43 => c_lsw m i a.2
  | 44 => c_gI m i a.2 && decide ((am_pa a.2 0).toNat < 12)
  | 45 => c_gR m i a.2
  | 46 => c_pI m i a.2
  | 47 => c_pZ m i a.2
  | 48 => c_pF m i a.2
  | 49 => am_dc m i .iaload 1
  | 50 => am_dc m i .iastore 1
  | 51 => am_dc m i .laload 1
  | 52 => am_dc m i .lastore 1
  | 53 => am_dc m i .aaload 1
  | 54 => am_dc m i .aastore 1
  | 55 => am_dc m i .arraylength 1
  | 56 => c_narr m i a.2
  | 57 => c_anew m i a.2
  | 58 => c_new m i a.2
  | 59 => c_call m i a.2
  | 60 => c_oini m i a.2
  | 61 => c_acpy m i a.2
  | 62 => decide (decode (am_by m) (am_pc m i) = .ok (.ireturn, 1)) && decide (am_rt m = some .int)
  | 63 => decide (decode (am_by m) (am_pc m i) = .ok (.ireturn, 1)) && decide (am_rt m = some .boolean)
  | 64 => decide (decode (am_by m) (am_pc m i) = .ok (.lreturn, 1)) && decide (am_rt m = some .long)
  | 65 => decide (decode (am_by m) (am_pc m i) = .ok (.return_, 1)) && decide (am_rt m = none)
  | 66 => c_mx m i a.2
  | 67 => c_mn m i a.2
  | _ => false
theorem g_ret3 {mi i : Nat} {f : List am_V → List am_V → am_S → Option am_R} (hr : ∀ {L S : List am_V} {st : am_S} {r : am_R}, f L S st = some r → r.1 = 3) : am_Go mi i f := by
  intro p l e R s m args below meth c Q g n0 cE C L S st r hc hf
  have h := hr hf
  exact ⟨fun q => absurd (q.symm.trans h) (by decide), fun q => absurd (q.symm.trans h) (by decide), fun q => absurd (q.symm.trans h) (by decide)⟩
set_option maxHeartbeats 4000000 in
theorem am_good {m i : Nat} {a : am_I} (h : am_chk m i a = true) : am_Go m i (am_se a) := by
  obtain ⟨k, ps⟩ := a
  match k, h with
  | 0, h => have h := Bool.and_eq_true_iff.mp h; exact g_iconst h.1
  | 1, h => have h := Bool.and_eq_true_iff.mp h; exact g_bpush h.1
  | 2, h => have h := Bool.and_eq_true_iff.mp h; exact g_spush h.1
  | 3, h => have h := Bool.and_eq_true_iff.mp h; exact g_ldc h.1
  | 4, h => have h := Bool.and_eq_true_iff.mp h; exact g_ldcw h.1
  | 5, h => have h := Bool.and_eq_true_iff.mp h; exact g_lconst h.1
  | 6, h => have h := Bool.and_eq_true_iff.mp h; exact g_ldc2 h.1
  | 7, h => exact g_ild h
  | 8, h => exact g_ald h
  | 9, h => exact g_lld h
  | 10, h => exact g_ist h
  | 11, h => exact g_ast h
  | 12, h => exact g_inc h
  | 13, h => exact g_bin (f := fun x y => x + y) h (fun a b c d => lv_iadd a b c d)
  | 14, h => exact g_bin (f := fun x y => x - y) h (fun a b c d => lv_isub a b c d)
  | 15, h => exact g_bin (f := fun x y => x * y) h (fun a b c d => lv_imul a b c d)
  | 16, h => exact g_bin0 (f := fun x y => x / y) h (fun a b c d e => lv_idiv a b c d e)
  | 17, h => exact g_bin0 (f := fun x y => x - x / y * y) h (fun a b c d e => lv_irem a b c d e)
  | 18, h => exact g_un (f := fun x => -x) h (fun a b c d => lv_ineg a b c d)
  | 19, h => exact g_bin (f := fun x y => x <<< (y &&& 31)) h (fun a b c d => lv_ishl a b c d)
  | 20, h => exact g_bin (f := fun x y => x >>> (y &&& 31)) h (fun a b c d => lv_ishr a b c d)
  | 21, h => exact g_bin h (fun a b c d => lv_iushr a b c rfl d)
  | 22, h => exact g_bin (f := fun x y => x &&& y) h (fun a b c d => lv_iand a b c d)
  | 23, h => exact g_bin (f := fun x y => x ||| y) h (fun a b c d => lv_ior a b c d)
  | 24, h => exact g_bin (f := fun x y => x ^^^ y) h (fun a b c d => lv_ixor a b c d)
  | 25, h => exact g_lbin (f := fun x y => x + y) h (fun a b c d => lv_ladd a b c d)
  | 26, h => exact g_lbin (f := fun x y => x * y) h (fun a b c d => lv_lmul a b c d)
  | 27, h => exact g_lbin (f := fun x y => x &&& y) h (fun a b c d => lv_land a b c d)
  | 28, h => exact g_lbin (f := fun x y => x ||| y) h (fun a b c d => lv_lor a b c d)
  | 29, h => exact g_lsh h (fun a b c d => lv_lshl a b c rfl d)
  | 30, h => exact g_lsh h (fun a b c d => lv_lshr a b c rfl d)
  | 31, h => exact g_lcmp h
  | 32, h => exact g_i2l h
  | 33, h => exact g_l2i h
  | 34, h => exact g_un h (fun a b c d => lv_i2b a b c rfl d)
  | 35, h => exact g_un h (fun a b c d => lv_i2s a b c rfl d)
  | 36, h => exact g_pop h
  | 37, h => exact g_dup h
  | 38, h => exact g_dup2 h
  | 39, h => exact g_ifc h
  | 40, h => exact g_icmp h
  | 41, h => exact g_goto h
  | 42, h => exact g_tsw h
  | 43, h => exact g_lsw h
  | 44, h => have h := Bool.and_eq_true_iff.mp h; exact g_gI h.1
  | 45, h => exact g_gR h
  | 46, h => exact g_pI h
  | 47, h => exact g_pZ h
  | 48, h => exact g_pF h
  | 49, h => exact g_iald h
  | 50, h => exact g_iast h
  | 51, h => exact g_lald h
  | 52, h => exact g_last h
  | 53, h => exact g_aald h
  | 54, h => exact g_aast h
  | 55, h => exact g_alen h
  | 56, h => exact g_narr h
  | 57, h => exact g_anew h
  | 58, h => exact g_new h
  | 59, h => exact g_call h
  | 60, h => exact g_oini h
  | 61, h => exact g_acpy h
  | 62, h => exact g_ret3 (f := s_iret) (fun h => by unfold s_iret at h; split at h <;> cases h <;> rfl)
  | 63, h => exact g_ret3 (f := s_zret) (fun h => by unfold s_zret at h; split at h <;> first | (split at h <;> cases h <;> rfl) | cases h)
  | 64, h => exact g_ret3 (f := s_lret) (fun h => by unfold s_lret at h; split at h <;> cases h <;> rfl)
  | 65, h => exact g_ret3 (f := s_vret) (fun h => by unfold s_vret at h; split at h <;> cases h <;> rfl)
  | 66, h => exact g_mx h
  | 67, h => exact g_mn h
  | n + 68, h => cases h
set_option maxHeartbeats 4000000 in
theorem am_can {m i : Nat} {a : am_I} {g : am_G} {L S : List am_V} {st : am_S} {r : am_R} (h : am_chk m i a = true) (hf : am_se a L S st = some r) (hc : am_Ca g L S st) : am_P g st r := by
  obtain ⟨k, ps⟩ := a
  match k, h with
  | 0, h => have h := Bool.and_eq_true_iff.mp h; exact cn_cst h.2 hf hc
  | 1, h => have h := Bool.and_eq_true_iff.mp h; exact cn_cst h.2 hf hc
  | 2, h => have h := Bool.and_eq_true_iff.mp h; exact cn_cst h.2 hf hc
  | 3, h => have h := Bool.and_eq_true_iff.mp h; exact cn_cst h.2 hf hc
  | 4, h => have h := Bool.and_eq_true_iff.mp h; exact cn_cst h.2 hf hc
  | 5, h => have h := Bool.and_eq_true_iff.mp h; exact cn_lcst h.2 hf hc
  | 6, h => have h := Bool.and_eq_true_iff.mp h; exact cn_lcst h.2 hf hc
  | 7, h => exact cn_ld hf hc
  | 8, h => exact cn_ld hf hc
  | 9, h => exact cn_ld hf hc
  | 10, h => exact cn_st hf hc
  | 11, h => exact cn_st hf hc
  | 12, h => exact cn_inc hf hc
  | 13, h => exact cn_bin hf hc
  | 14, h => exact cn_bin hf hc
  | 15, h => exact cn_bin hf hc
  | 16, h => exact cn_bin0 hf hc
  | 17, h => exact cn_bin0 (f := fun x y => x - x / y * y) hf hc
  | 18, h => exact cn_un hf hc
  | 19, h => exact cn_bin (f := fun x y => x <<< (y &&& 31)) hf hc
  | 20, h => exact cn_bin (f := fun x y => x >>> (y &&& 31)) hf hc
  | 21, h => exact cn_bin (f := fun x y => (x.toUInt32 >>> (y.toUInt32 &&& Int32.toUInt32 31)).toInt32) hf hc
  | 22, h => exact cn_bin hf hc
  | 23, h => exact cn_bin hf hc
  | 24, h => exact cn_bin hf hc
  | 25, h => exact cn_lbin hf hc
  | 26, h => exact cn_lbin hf hc
  | 27, h => exact cn_lbin hf hc
  | 28, h => exact cn_lbin hf hc
  | 29, h => exact cn_lsh (f := fun x y => x <<< (y.toInt64 &&& 63)) hf hc
  | 30, h => exact cn_lsh (f := fun x y => x >>> (y.toInt64 &&& 63)) hf hc
  | 31, h => exact cn_lcmp hf hc
  | 32, h => exact cn_i2l hf hc
  | 33, h => exact cn_l2i hf hc
  | 34, h => exact cn_un (f := fun x => x.toInt8.toInt32) hf hc
  | 35, h => exact cn_un (f := fun x => x.toInt16.toInt32) hf hc
  | 36, h => exact cn_pop hf hc
  | 37, h => exact cn_dup hf hc
  | 38, h => exact cn_dup2 hf hc
  | 39, h => exact cn_ifc hf hc
  | 40, h => exact cn_icmp hf hc
  | 41, h => exact cn_goto hf hc
  | 42, h => exact cn_tsw hf hc
  | 43, h => exact cn_lsw hf hc
  | 44, h => have h := Bool.and_eq_true_iff.mp h; exact cn_gI (of_decide_eq_true h.2) hf hc
  | 45, h => exact cn_gR hf hc
  | 46, h => exact cn_pI hf hc
  | 47, h => exact cn_pZ hf hc
  | 48, h => exact cn_pF hf hc
  | 49, h => exact cn_iald hf hc
  | 50, h => exact cn_iast hf hc
  | 51, h => exact cn_lald hf hc
  | 52, h => exact cn_last hf hc
  | 53, h => exact cn_aald hf hc
  | 54, h => exact cn_aast hf hc
  | 55, h => exact cn_alen hf hc
  | 56, h => exact cn_narr hf hc
  | 57, h => exact cn_anew hf hc
  | 58, h => exact cn_new hf hc
  | 59, h => exact cn_call hf hc
  | 60, h => exact cn_oini hf hc
  | 61, h => exact cn_acpy hf hc
  | 62, h => exact cn_iret hf hc
  | 63, h => exact cn_zret hf hc
  | 64, h => exact cn_lret hf hc
  | 65, h => exact cn_vret hf hc
  | 66, h => exact cn_mx hf hc
  | 67, h => exact cn_mn hf hc
  | n + 68, h => cases h
end
section
theorem am_kd {a : am_I} {L S : List am_V} {st : am_S} {r : am_R} (h : am_se a L S st = some r) : r.1 ≤ 2 ∨ (62 ≤ a.1 ∧ a.1 ≤ 65) := by
  obtain ⟨k, ps⟩ := a
  match k, h with
  | 0, h => left; simp only [am_se, s_cst, am_nx, am_jp] at h; (repeat' split at h) <;> first | (cases h; exact Nat.le_of_ble_eq_true rfl) | cases h
  | 1, h => left; simp only [am_se, s_cst, am_nx, am_jp] at h; (repeat' split at h) <;> first | (cases h; exact Nat.le_of_ble_eq_true rfl) | cases h
  | 2, h => left; simp only [am_se, s_cst, am_nx, am_jp] at h; (repeat' split at h) <;> first | (cases h; exact Nat.le_of_ble_eq_true rfl) | cases h
  | 3, h => left; simp only [am_se, s_cst, am_nx, am_jp] at h; (repeat' split at h) <;> first | (cases h; exact Nat.le_of_ble_eq_true rfl) | cases h
  | 4, h => left; simp only [am_se, s_cst, am_nx, am_jp] at h; (repeat' split at h) <;> first | (cases h; exact Nat.le_of_ble_eq_true rfl) | cases h
  | 5, h => left; simp only [am_se, s_lcst, am_nx, am_jp] at h; (repeat' split at h) <;> first | (cases h; exact Nat.le_of_ble_eq_true rfl) | cases h
  | 6, h => left; simp only [am_se, s_lcst, am_nx, am_jp] at h; (repeat' split at h) <;> first | (cases h; exact Nat.le_of_ble_eq_true rfl) | cases h
  | 7, h => left; simp only [am_se, s_ld, am_nx, am_jp] at h; (repeat' split at h) <;> first | (cases h; exact Nat.le_of_ble_eq_true rfl) | cases h
  | 8, h => left; simp only [am_se, s_ld, am_nx, am_jp] at h; (repeat' split at h) <;> first | (cases h; exact Nat.le_of_ble_eq_true rfl) | cases h
  | 9, h => left; simp only [am_se, s_ld, am_nx, am_jp] at h; (repeat' split at h) <;> first | (cases h; exact Nat.le_of_ble_eq_true rfl) | cases h
  | 10, h => left; simp only [am_se, s_st, am_nx, am_jp] at h; (repeat' split at h) <;> first | (cases h; exact Nat.le_of_ble_eq_true rfl) | cases h
  | 11, h => left; simp only [am_se, s_st, am_nx, am_jp] at h; (repeat' split at h) <;> first | (cases h; exact Nat.le_of_ble_eq_true rfl) | cases h
  | 12, h => left; simp only [am_se, s_inc, am_nx, am_jp] at h; (repeat' split at h) <;> first | (cases h; exact Nat.le_of_ble_eq_true rfl) | cases h
  | 13, h => left; simp only [am_se, s_bin, am_nx, am_jp] at h; (repeat' split at h) <;> first | (cases h; exact Nat.le_of_ble_eq_true rfl) | cases h
  | 14, h => left; simp only [am_se, s_bin, am_nx, am_jp] at h; (repeat' split at h) <;> first | (cases h; exact Nat.le_of_ble_eq_true rfl) | cases h
  | 15, h => left; simp only [am_se, s_bin, am_nx, am_jp] at h; (repeat' split at h) <;> first | (cases h; exact Nat.le_of_ble_eq_true rfl) | cases h
  | 16, h => left; simp only [am_se, s_bin0, am_nx, am_jp] at h; (repeat' split at h) <;> first | (cases h; exact Nat.le_of_ble_eq_true rfl) | cases h
  | 17, h => left; simp only [am_se, s_bin0, am_nx, am_jp] at h; (repeat' split at h) <;> first | (cases h; exact Nat.le_of_ble_eq_true rfl) | cases h
  | 18, h => left; simp only [am_se, s_un, am_nx, am_jp] at h; (repeat' split at h) <;> first | (cases h; exact Nat.le_of_ble_eq_true rfl) | cases h
  | 19, h => left; simp only [am_se, s_bin, am_nx, am_jp] at h; (repeat' split at h) <;> first | (cases h; exact Nat.le_of_ble_eq_true rfl) | cases h
  | 20, h => left; simp only [am_se, s_bin, am_nx, am_jp] at h; (repeat' split at h) <;> first | (cases h; exact Nat.le_of_ble_eq_true rfl) | cases h
  | 21, h => left; simp only [am_se, s_bin, am_nx, am_jp] at h; (repeat' split at h) <;> first | (cases h; exact Nat.le_of_ble_eq_true rfl) | cases h
  | 22, h => left; simp only [am_se, s_bin, am_nx, am_jp] at h; (repeat' split at h) <;> first | (cases h; exact Nat.le_of_ble_eq_true rfl) | cases h
  | 23, h => left; simp only [am_se, s_bin, am_nx, am_jp] at h; (repeat' split at h) <;> first | (cases h; exact Nat.le_of_ble_eq_true rfl) | cases h
  | 24, h => left; simp only [am_se, s_bin, am_nx, am_jp] at h; (repeat' split at h) <;> first | (cases h; exact Nat.le_of_ble_eq_true rfl) | cases h
  | 25, h => left; simp only [am_se, s_lbin, am_nx, am_jp] at h; (repeat' split at h) <;> first | (cases h; exact Nat.le_of_ble_eq_true rfl) | cases h
  | 26, h => left; simp only [am_se, s_lbin, am_nx, am_jp] at h; (repeat' split at h) <;> first | (cases h; exact Nat.le_of_ble_eq_true rfl) | cases h
  | 27, h => left; simp only [am_se, s_lbin, am_nx, am_jp] at h; (repeat' split at h) <;> first | (cases h; exact Nat.le_of_ble_eq_true rfl) | cases h
  | 28, h => left; simp only [am_se, s_lbin, am_nx, am_jp] at h; (repeat' split at h) <;> first | (cases h; exact Nat.le_of_ble_eq_true rfl) | cases h
  | 29, h => left; simp only [am_se, s_lsh, am_nx, am_jp] at h; (repeat' split at h) <;> first | (cases h; exact Nat.le_of_ble_eq_true rfl) | cases h
  | 30, h => left; simp only [am_se, s_lsh, am_nx, am_jp] at h; (repeat' split at h) <;> first | (cases h; exact Nat.le_of_ble_eq_true rfl) | cases h
  | 31, h => left; simp only [am_se, s_lcmp, am_nx, am_jp] at h; (repeat' split at h) <;> first | (cases h; exact Nat.le_of_ble_eq_true rfl) | cases h
  | 32, h => left; simp only [am_se, s_i2l, am_nx, am_jp] at h; (repeat' split at h) <;> first | (cases h; exact Nat.le_of_ble_eq_true rfl) | cases h
  | 33, h => left; simp only [am_se, s_l2i, am_nx, am_jp] at h; (repeat' split at h) <;> first | (cases h; exact Nat.le_of_ble_eq_true rfl) | cases h
  | 34, h => left; simp only [am_se, s_un, am_nx, am_jp] at h; (repeat' split at h) <;> first | (cases h; exact Nat.le_of_ble_eq_true rfl) | cases h
  | 35, h => left; simp only [am_se, s_un, am_nx, am_jp] at h; (repeat' split at h) <;> first | (cases h; exact Nat.le_of_ble_eq_true rfl) | cases h
  | 36, h => left; simp only [am_se, s_pop, am_nx, am_jp] at h; (repeat' split at h) <;> first | (cases h; exact Nat.le_of_ble_eq_true rfl) | cases h
  | 37, h => left; simp only [am_se, s_dup, am_nx, am_jp] at h; (repeat' split at h) <;> first | (cases h; exact Nat.le_of_ble_eq_true rfl) | cases h
  | 38, h => left; simp only [am_se, s_dup2, am_nx, am_jp] at h; (repeat' split at h) <;> first | (cases h; exact Nat.le_of_ble_eq_true rfl) | cases h
  | 39, h => left; simp only [am_se, s_ifc, am_nx, am_jp] at h; (repeat' split at h) <;> first | (cases h; exact Nat.le_of_ble_eq_true rfl) | cases h
  | 40, h => left; simp only [am_se, s_icmp, am_nx, am_jp] at h; (repeat' split at h) <;> first | (cases h; exact Nat.le_of_ble_eq_true rfl) | cases h
  | 41, h => left; simp only [am_se, s_goto, am_nx, am_jp] at h; (repeat' split at h) <;> first | (cases h; exact Nat.le_of_ble_eq_true rfl) | cases h
  | 42, h => left; simp only [am_se, s_tsw, am_nx, am_jp] at h; (repeat' split at h) <;> first | (cases h; exact Nat.le_of_ble_eq_true rfl) | cases h
  | 43, h => left; simp only [am_se, s_lsw, am_nx, am_jp] at h; (repeat' split at h) <;> first | (cases h; exact Nat.le_of_ble_eq_true rfl) | cases h
  | 44, h => left; simp only [am_se, s_gI, am_nx, am_jp] at h; (repeat' split at h) <;> first | (cases h; exact Nat.le_of_ble_eq_true rfl) | cases h
  | 45, h => left; simp only [am_se, s_gR, am_nx, am_jp] at h; (repeat' split at h) <;> first | (cases h; exact Nat.le_of_ble_eq_true rfl) | cases h
  | 46, h => left; simp only [am_se, s_pI, am_nx, am_jp] at h; (repeat' split at h) <;> first | (cases h; exact Nat.le_of_ble_eq_true rfl) | cases h
  | 47, h => left; simp only [am_se, s_pZ, am_nx, am_jp] at h; (repeat' split at h) <;> first | (cases h; exact Nat.le_of_ble_eq_true rfl) | cases h
  | 48, h => left; simp only [am_se, s_pF, am_nx, am_jp] at h; (repeat' split at h) <;> first | (cases h; exact Nat.le_of_ble_eq_true rfl) | cases h
  | 49, h => left; simp only [am_se, s_iald, am_nx, am_jp] at h; (repeat' split at h) <;> first | (cases h; exact Nat.le_of_ble_eq_true rfl) | cases h
  | 50, h => left; simp only [am_se, s_iast, am_nx, am_jp] at h; (repeat' split at h) <;> first | (cases h; exact Nat.le_of_ble_eq_true rfl) | cases h
  | 51, h => left; simp only [am_se, s_lald, am_nx, am_jp] at h; (repeat' split at h) <;> first | (cases h; exact Nat.le_of_ble_eq_true rfl) | cases h
  | 52, h => left; simp only [am_se, s_last, am_nx, am_jp] at h; (repeat' split at h) <;> first | (cases h; exact Nat.le_of_ble_eq_true rfl) | cases h
  | 53, h => left; simp only [am_se, s_aald, am_nx, am_jp] at h; (repeat' split at h) <;> first | (cases h; exact Nat.le_of_ble_eq_true rfl) | cases h
  | 54, h => left; simp only [am_se, s_aast, am_nx, am_jp] at h; (repeat' split at h) <;> first | (cases h; exact Nat.le_of_ble_eq_true rfl) | cases h
  | 55, h => left; simp only [am_se, s_alen, am_nx, am_jp] at h; (repeat' split at h) <;> first | (cases h; exact Nat.le_of_ble_eq_true rfl) | cases h
  | 56, h => left; simp only [am_se, s_narr, am_nx, am_jp] at h; (repeat' split at h) <;> first | (cases h; exact Nat.le_of_ble_eq_true rfl) | cases h
  | 57, h => left; simp only [am_se, s_anew, am_nx, am_jp] at h; (repeat' split at h) <;> first | (cases h; exact Nat.le_of_ble_eq_true rfl) | cases h
  | 58, h => left; simp only [am_se, s_new, am_nx, am_jp] at h; (repeat' split at h) <;> first | (cases h; exact Nat.le_of_ble_eq_true rfl) | cases h
  | 59, h => left; simp only [am_se, s_call, am_nx, am_jp] at h; (repeat' split at h) <;> first | (cases h; exact Nat.le_of_ble_eq_true rfl) | cases h
  | 60, h => left; simp only [am_se, s_oini, am_nx, am_jp] at h; (repeat' split at h) <;> first | (cases h; exact Nat.le_of_ble_eq_true rfl) | cases h
  | 61, h => left; simp only [am_se, s_acpy, am_nx, am_jp] at h; (repeat' split at h) <;> first | (cases h; exact Nat.le_of_ble_eq_true rfl) | cases h
  | 62, _ => exact Or.inr ⟨Nat.le_of_ble_eq_true rfl, Nat.le_of_ble_eq_true rfl⟩
  | 63, _ => exact Or.inr ⟨Nat.le_of_ble_eq_true rfl, Nat.le_of_ble_eq_true rfl⟩
  | 64, _ => exact Or.inr ⟨Nat.le_of_ble_eq_true rfl, Nat.le_of_ble_eq_true rfl⟩
  | 65, _ => exact Or.inr ⟨Nat.le_of_ble_eq_true rfl, Nat.le_of_ble_eq_true rfl⟩
  | 66, h => left; simp only [am_se, s_mx, am_nx, am_jp] at h; (repeat' split at h) <;> first | (cases h; exact Nat.le_of_ble_eq_true rfl) | cases h
  | 67, h => left; simp only [am_se, s_mn, am_nx, am_jp] at h; (repeat' split at h) <;> first | (cases h; exact Nat.le_of_ble_eq_true rfl) | cases h
  | n + 68, h => cases h
/-- how a method ends -/
def am_end (mi i : Nat) (S : List am_V) (v : am_V) : Prop := (∃ x : Int, v = (0, x) ∧ S = [v] ∧ decode (am_by mi) (am_pc mi i) = .ok (.ireturn, 1) ∧ (am_rt mi = some .int ∨ (am_rt mi = some .boolean ∧ (x = 0 ∨ x = 1)))) ∨ (∃ x : Int, v = (1, x) ∧ S = [v] ∧ decode (am_by mi) (am_pc mi i) = .ok (.lreturn, 1) ∧ am_rt mi = some .long) ∨ (v = aV ∧ S = [] ∧ decode (am_by mi) (am_pc mi i) = .ok (.return_, 1) ∧ am_rt mi = none)
theorem am_ends {mi i : Nat} {a : am_I} {L S : List am_V} {st : am_S} {r : am_R} (hk : am_chk mi i a = true) (h : am_se a L S st = some r) (h3 : 3 ≤ r.1) : ∃ v, r.2.2.1 = [v] ∧ r.2.2.2.2 = st ∧ am_end mi i S v := by
  rcases am_kd h with h2 | ⟨h2, h4⟩
  · omega
  · obtain ⟨k, ps⟩ := a
    dsimp only at h2 h4
    have hq : k = 62 ∨ k = 63 ∨ k = 64 ∨ k = 65 := by omega
    rcases hq with rfl | rfl | rfl | rfl
    · have hk := Bool.and_eq_true_iff.mp hk
      simp only [am_se, s_iret] at h
      split at h
      · next v =>
        cases h
        exact ⟨_, rfl, rfl, Or.inl ⟨v, rfl, rfl, of_decide_eq_true hk.1, Or.inl (of_decide_eq_true hk.2)⟩⟩
      · cases h
    · have hk := Bool.and_eq_true_iff.mp hk
      simp only [am_se, s_zret] at h
      split at h
      · next v =>
        split at h
        · next hv =>
          cases h
          exact ⟨_, rfl, rfl, Or.inl ⟨v, rfl, rfl, of_decide_eq_true hk.1, Or.inr ⟨of_decide_eq_true hk.2, hv⟩⟩⟩
        · cases h
      · cases h
    · have hk := Bool.and_eq_true_iff.mp hk
      simp only [am_se, s_lret] at h
      split at h
      · next v =>
        cases h
        exact ⟨_, rfl, rfl, Or.inr (Or.inl ⟨v, rfl, rfl, of_decide_eq_true hk.1, of_decide_eq_true hk.2⟩)⟩
      · cases h
    · have hk := Bool.and_eq_true_iff.mp hk
      simp only [am_se, s_vret] at h
      split at h
      · cases h
        exact ⟨_, rfl, rfl, Or.inr (Or.inr ⟨rfl, rfl, of_decide_eq_true hk.1, of_decide_eq_true hk.2⟩)⟩
      · cases h
theorem am_end_ok {mi i n0 : Nat} {p : Program} {l : Launch} {e : Env} {R : Room} {s : State} {m : MethodId} {args : Array Value} {below : List Frame} {meth : Method} {c : Code} {g : am_G} {L S : List am_V} {st : am_S} {v : am_V} (C : am_Cx mi p R s m args meth c g n0 st.1) (h : am_end mi i S v) : am_WW mi p l e R s m args below meth c (MQ below (am_Qc g v st) args s (st.1 - n0) (am_sl st.1 - am_sl n0) (fun q => g.1 ≤ q)) g n0 i L S st := by
  obtain ⟨hx, hb, hml, hown, hts, hini, hSB, hsz, hfr, hlc, hce, hsl, hr, hlk⟩ := C
  intro ls H locs hl hP hS hn
  have hq : ∀ (o : Option Value) (t : State), o = am_ov g v → t.heap = H → am_Qc g v st args s (.returned o) t := fun o t ho ht => ⟨by rw [ho], by rw [ht]; exact hP, hS.F ht⟩
  rcases h with ⟨x, rfl, rfl, hd, hrt | ⟨hrt, hv⟩⟩ | ⟨x, rfl, rfl, hd, hrt⟩ | ⟨rfl, rfl, hd, hrt⟩
  · exact W.iret (v := Int32.ofInt x) hx hb (hr.trans hrt) (fun t ht _ => hq _ t rfl ht) hS.2.2 hd hlk
  · exact W.zret (v := Int32.ofInt x) hx hb (hr.trans hrt) (am_nz hv).1 (fun t ht _ => hq _ t rfl ht) hS.2.2 hd hlk
  · exact W.lret (v := Int64.ofInt x) hx hb (hr.trans hrt) (fun t ht _ => hq _ t rfl ht) hS.2.2 hd hlk
  · exact W.vret hx hb (hr.trans hrt) (fun t ht _ => hq _ t rfl ht) hS.2.2 hd hlk
def am_All : Prop := ∀ (m i : Nat) (a : am_I), (am_pr m)[i]? = some a → am_chk m i a = true
theorem am_drop {m i : Nat} {a : am_I} {is : List am_I} (h : (am_pr m).drop i = a :: is) : (am_pr m)[i]? = some a ∧ is = (am_pr m).drop (i + 1) := by
  constructor
  · have := congrArg (fun l => l[0]?) h
    simpa using this
  · have := congrArg List.tail h
    simpa using this.symm
theorem am_pl_in {ws : List Nat} {As : List am_V} {v : am_V} (h : v ∈ am_pl ws As) : v ∈ As ∨ v = aX := by
  induction ws generalizing As with
  | nil => simp [am_pl] at h
  | cons w ws ih =>
    cases As with
    | nil => simp [am_pl] at h
    | cons u As =>
      rw [am_pl] at h
      split at h
      · rcases List.mem_cons.mp h with e | h
        · rw [e]; exact Or.inl List.mem_cons_self
        · rcases List.mem_cons.mp h with e | h
          · exact Or.inr e
          · exact (ih h).imp (List.mem_cons_of_mem _) id
      · rcases List.mem_cons.mp h with e | h
        · rw [e]; exact Or.inl List.mem_cons_self
        · exact (ih h).imp (List.mem_cons_of_mem _) id
theorem v3_X : am_v3 aX := ⟨(fun h => nomatch h), (fun h => nomatch h)⟩
theorem am_en_can {g : am_G} {m : Nat} {As S : List am_V} {st : am_S} (h : am_Ca g As S st) : am_Ca g (am_en m As) [] st := by
  refine ⟨fun v hv => ?_, (fun v hv => nomatch hv), h.2.2⟩
  rcases List.mem_append.mp hv with hv | hv
  · rcases am_pl_in hv with hv | hv
    · exact h.1 v hv
    · rw [hv]; exact v3_X
  · rw [(List.mem_replicate.mp hv).2]; exact v3_X
theorem am_pu_can {g : am_G} {L S : List am_V} {st2 : am_S} {r : am_V} (hL : ∀ v ∈ L, am_v3 v) (hS : ∀ v ∈ S, am_v3 v) (hr : am_Ca g [r] [] st2) : am_Ca g L (am_pu r S) st2 := by
  refine ⟨hL, fun v hv => ?_, hr.2.2⟩
  unfold am_pu at hv
  split at hv
  · exact hS v hv
  · rcases List.mem_cons.mp hv with e | hv
    · rw [e]; exact hr.1 r List.mem_cons_self
    · exact hS v hv
theorem am_rc (hall : am_All) (g : am_G) : ∀ (n m i : Nat) (L S : List am_V) (st : am_S) (r : am_V) (st' : am_S), am_run n m ((am_pr m).drop i) L S st = some (r, st') → am_Ca g L S st → am_Ca g [r] [] st' ∧ st.1 ≤ st'.1 := by
  intro n
  induction n with
  | zero => intro m i L S st r st' h; cases h
  | succ n ih =>
    intro m i L S st r st' h hc
    cases hd : (am_pr m).drop i with
    | nil => rw [hd] at h; cases h
    | cons a is =>
      obtain ⟨ha, his⟩ := am_drop hd
      rw [hd, am_run] at h
      cases hse : am_se a L S st with
      | none => rw [hse] at h; cases h
      | some r0 =>
        rw [hse] at h
        obtain ⟨k, t, L', S', s'⟩ := r0
        have hp := am_can (hall m i a ha) hse hc
        obtain ⟨hp1, hp2⟩ := hp
        dsimp only at hp1 hp2
        match k, h with
        | 0, h =>
          try dsimp only at h
          rw [his] at h
          have := ih m (i + 1) L' S' s' r st' h hp1
          exact ⟨this.1, by omega⟩
        | 1, h =>
          try dsimp only at h
          have := ih m t L' S' s' r st' h hp1
          exact ⟨this.1, by omega⟩
        | 2, h =>
          have h : (match am_run n t (am_pr t) (am_en t L') [] s' with
            | some (r1, st1) => am_run n m is L (am_pu r1 S') st1
            | none => none) = some (r, st') := h
          split at h
          · next r1 st1 h1 =>
            rw [his] at h
            have q1 := ih t 0 (am_en t L') [] s' r1 st1 (by rw [List.drop_zero]; exact h1) (am_en_can hp1)
            have q2 := ih m (i + 1) L (am_pu r1 S') st1 r st' h (am_pu_can hc.1 hp1.2.1 q1.1)
            exact ⟨q2.1, by omega⟩
          · cases h
        | k + 3, h =>
          obtain ⟨v, e1, e2, -⟩ := am_ends (hall m i a ha) hse (by dsimp only; omega)
          dsimp only at e1 e2
          subst e1
          try dsimp only at h
          cases h
          exact ⟨⟨hp1.1, (fun v hv => nomatch hv), hp1.2.2⟩, hp2⟩
def am_Rk (mi : Nat) (p : Program) (l : Launch) (e : Env) (R : Room) (s : State) (m : MethodId) (args : Array Value) (below : List Frame) (meth : Method) (c : Code) (Q : State → Prop) (g : am_G) (n0 : Nat) (rv : am_V) (stE : am_S) : Prop := ∀ (i : Nat) (L S : List am_V), am_end mi i S rv → am_WW mi p l e R s m args below meth c Q g n0 i L S stE
def am_SimP (n : Nat) : Prop := ∀ (mi : Nat) (p : Program) (l : Launch) (e : Env) (R : Room) (s : State) (m : MethodId) (args : Array Value) (below : List Frame) (meth : Method) (c : Code) (Q : State → Prop) (g : am_G) (n0 : Nat) (rv : am_V) (stE : am_S), am_Cx mi p R s m args meth c g n0 stE.1 → am_Rk mi p l e R s m args below meth c Q g n0 rv stE → ∀ (i : Nat) (L S : List am_V) (st : am_S), am_Ca g L S st → am_run n mi ((am_pr mi).drop i) L S st = some (rv, stE) → am_WW mi p l e R s m args below meth c Q g n0 i L S st
theorem am_en_len {m : Nat} {As : List am_V} (hw : As.map am_cat = am_wi m) : (am_pl (am_wi m) As).length = (am_wi m).sum := by
  rw [← hw]
  clear hw
  induction As with
  | nil => rfl
  | cons v As ih =>
    rw [List.map_cons, am_pl]
    split
    · next h => rw [List.length_cons, List.length_cons, ih, List.sum_cons, h]; omega
    · next h =>
      have : am_cat v = 1 := by
        unfold am_cat at h ⊢
        split
        · next z => rw [if_pos z] at h; exact absurd rfl h
        · rfl
      rw [List.length_cons, ih, List.sum_cons, this]; omega
theorem am_sl_vs (g : am_G) (As : List am_V) (j : Nat) : ∀ (i : Nat) (v : am_V), (am_pl (As.map am_cat) As)[i]? = some v → v.1 < 3 → (j + i, am_vv g v) ∈ lv_args j (am_vs g As) := by
  induction As generalizing j with
  | nil => intro i v h; simp [am_pl] at h
  | cons u As ih =>
    intro i v h h3
    rw [List.map_cons, am_pl] at h
    rw [show am_vs g (u :: As) = am_vv g u :: am_vs g As from rfl, lv_args, am_cat_v]
    split at h
    · next h2 =>
      rw [if_pos h2]
      match i, h with
      | 0, h => cases h; exact List.mem_cons_self
      | 1, h => cases h; exact absurd h3 (by decide)
      | i + 2, h =>
        refine List.mem_cons_of_mem _ ?_
        have := ih (j + 2) i v h h3
        rwa [show j + 2 + i = j + (i + 2) by omega] at this
    · next h2 =>
      rw [if_neg h2]
      match i, h with
      | 0, h => cases h; exact List.mem_cons_self
      | i + 1, h =>
        refine List.mem_cons_of_mem _ ?_
        have := ih (j + 1) i v h h3
        rwa [show j + 1 + i = j + (i + 1) by omega] at this
theorem lg_sl_len (g : am_G) (As : List am_V) : (lg_sl (am_vs g As)).length = (As.map am_cat).sum := by
  induction As with
  | nil => rfl
  | cons u As ih =>
    rw [show am_vs g (u :: As) = am_vv g u :: am_vs g As from rfl, List.map_cons, List.sum_cons, ← ih]
    have := am_cat_v g u
    unfold lg_sl
    rw [List.flatMap_cons, List.length_append]
    congr 1
    rw [← this]
    obtain ⟨t, x⟩ := u
    match t with
    | 0 => rfl
    | 1 => rfl
    | t + 2 => rfl
end
section
theorem am_k2 {a : am_I} {L S : List am_V} {st : am_S} {r : am_R} (h : am_se a L S st = some r) : r.1 ≠ 2 ∨ a.1 = 59 := by
  obtain ⟨k, ps⟩ := a
  match k, h with
  | 0, h => left; simp only [am_se, s_cst, am_nx, am_jp] at h; (repeat' split at h) <;> first | (cases h; exact Nat.ne_of_beq_eq_false rfl) | cases h
  | 1, h => left; simp only [am_se, s_cst, am_nx, am_jp] at h; (repeat' split at h) <;> first | (cases h; exact Nat.ne_of_beq_eq_false rfl) | cases h
  | 2, h => left; simp only [am_se, s_cst, am_nx, am_jp] at h; (repeat' split at h) <;> first | (cases h; exact Nat.ne_of_beq_eq_false rfl) | cases h
  | 3, h => left; simp only [am_se, s_cst, am_nx, am_jp] at h; (repeat' split at h) <;> first | (cases h; exact Nat.ne_of_beq_eq_false rfl) | cases h
  | 4, h => left; simp only [am_se, s_cst, am_nx, am_jp] at h; (repeat' split at h) <;> first | (cases h; exact Nat.ne_of_beq_eq_false rfl) | cases h
  | 5, h => left; simp only [am_se, s_lcst, am_nx, am_jp] at h; (repeat' split at h) <;> first | (cases h; exact Nat.ne_of_beq_eq_false rfl) | cases h
  | 6, h => left; simp only [am_se, s_lcst, am_nx, am_jp] at h; (repeat' split at h) <;> first | (cases h; exact Nat.ne_of_beq_eq_false rfl) | cases h
  | 7, h => left; simp only [am_se, s_ld, am_nx, am_jp] at h; (repeat' split at h) <;> first | (cases h; exact Nat.ne_of_beq_eq_false rfl) | cases h
  | 8, h => left; simp only [am_se, s_ld, am_nx, am_jp] at h; (repeat' split at h) <;> first | (cases h; exact Nat.ne_of_beq_eq_false rfl) | cases h
  | 9, h => left; simp only [am_se, s_ld, am_nx, am_jp] at h; (repeat' split at h) <;> first | (cases h; exact Nat.ne_of_beq_eq_false rfl) | cases h
  | 10, h => left; simp only [am_se, s_st, am_nx, am_jp] at h; (repeat' split at h) <;> first | (cases h; exact Nat.ne_of_beq_eq_false rfl) | cases h
  | 11, h => left; simp only [am_se, s_st, am_nx, am_jp] at h; (repeat' split at h) <;> first | (cases h; exact Nat.ne_of_beq_eq_false rfl) | cases h
  | 12, h => left; simp only [am_se, s_inc, am_nx, am_jp] at h; (repeat' split at h) <;> first | (cases h; exact Nat.ne_of_beq_eq_false rfl) | cases h
  | 13, h => left; simp only [am_se, s_bin, am_nx, am_jp] at h; (repeat' split at h) <;> first | (cases h; exact Nat.ne_of_beq_eq_false rfl) | cases h
  | 14, h => left; simp only [am_se, s_bin, am_nx, am_jp] at h; (repeat' split at h) <;> first | (cases h; exact Nat.ne_of_beq_eq_false rfl) | cases h
  | 15, h => left; simp only [am_se, s_bin, am_nx, am_jp] at h; (repeat' split at h) <;> first | (cases h; exact Nat.ne_of_beq_eq_false rfl) | cases h
  | 16, h => left; simp only [am_se, s_bin0, am_nx, am_jp] at h; (repeat' split at h) <;> first | (cases h; exact Nat.ne_of_beq_eq_false rfl) | cases h
  | 17, h => left; simp only [am_se, s_bin0, am_nx, am_jp] at h; (repeat' split at h) <;> first | (cases h; exact Nat.ne_of_beq_eq_false rfl) | cases h
  | 18, h => left; simp only [am_se, s_un, am_nx, am_jp] at h; (repeat' split at h) <;> first | (cases h; exact Nat.ne_of_beq_eq_false rfl) | cases h
  | 19, h => left; simp only [am_se, s_bin, am_nx, am_jp] at h; (repeat' split at h) <;> first | (cases h; exact Nat.ne_of_beq_eq_false rfl) | cases h
  | 20, h => left; simp only [am_se, s_bin, am_nx, am_jp] at h; (repeat' split at h) <;> first | (cases h; exact Nat.ne_of_beq_eq_false rfl) | cases h
  | 21, h => left; simp only [am_se, s_bin, am_nx, am_jp] at h; (repeat' split at h) <;> first | (cases h; exact Nat.ne_of_beq_eq_false rfl) | cases h
  | 22, h => left; simp only [am_se, s_bin, am_nx, am_jp] at h; (repeat' split at h) <;> first | (cases h; exact Nat.ne_of_beq_eq_false rfl) | cases h
  | 23, h => left; simp only [am_se, s_bin, am_nx, am_jp] at h; (repeat' split at h) <;> first | (cases h; exact Nat.ne_of_beq_eq_false rfl) | cases h
  | 24, h => left; simp only [am_se, s_bin, am_nx, am_jp] at h; (repeat' split at h) <;> first | (cases h; exact Nat.ne_of_beq_eq_false rfl) | cases h
  | 25, h => left; simp only [am_se, s_lbin, am_nx, am_jp] at h; (repeat' split at h) <;> first | (cases h; exact Nat.ne_of_beq_eq_false rfl) | cases h
  | 26, h => left; simp only [am_se, s_lbin, am_nx, am_jp] at h; (repeat' split at h) <;> first | (cases h; exact Nat.ne_of_beq_eq_false rfl) | cases h
  | 27, h => left; simp only [am_se, s_lbin, am_nx, am_jp] at h; (repeat' split at h) <;> first | (cases h; exact Nat.ne_of_beq_eq_false rfl) | cases h
  | 28, h => left; simp only [am_se, s_lbin, am_nx, am_jp] at h; (repeat' split at h) <;> first | (cases h; exact Nat.ne_of_beq_eq_false rfl) | cases h
  | 29, h => left; simp only [am_se, s_lsh, am_nx, am_jp] at h; (repeat' split at h) <;> first | (cases h; exact Nat.ne_of_beq_eq_false rfl) | cases h
  | 30, h => left; simp only [am_se, s_lsh, am_nx, am_jp] at h; (repeat' split at h) <;> first | (cases h; exact Nat.ne_of_beq_eq_false rfl) | cases h
  | 31, h => left; simp only [am_se, s_lcmp, am_nx, am_jp] at h; (repeat' split at h) <;> first | (cases h; exact Nat.ne_of_beq_eq_false rfl) | cases h
  | 32, h => left; simp only [am_se, s_i2l, am_nx, am_jp] at h; (repeat' split at h) <;> first | (cases h; exact Nat.ne_of_beq_eq_false rfl) | cases h
  | 33, h => left; simp only [am_se, s_l2i, am_nx, am_jp] at h; (repeat' split at h) <;> first | (cases h; exact Nat.ne_of_beq_eq_false rfl) | cases h
  | 34, h => left; simp only [am_se, s_un, am_nx, am_jp] at h; (repeat' split at h) <;> first | (cases h; exact Nat.ne_of_beq_eq_false rfl) | cases h
  | 35, h => left; simp only [am_se, s_un, am_nx, am_jp] at h; (repeat' split at h) <;> first | (cases h; exact Nat.ne_of_beq_eq_false rfl) | cases h
  | 36, h => left; simp only [am_se, s_pop, am_nx, am_jp] at h; (repeat' split at h) <;> first | (cases h; exact Nat.ne_of_beq_eq_false rfl) | cases h
  | 37, h => left; simp only [am_se, s_dup, am_nx, am_jp] at h; (repeat' split at h) <;> first | (cases h; exact Nat.ne_of_beq_eq_false rfl) | cases h
  | 38, h => left; simp only [am_se, s_dup2, am_nx, am_jp] at h; (repeat' split at h) <;> first | (cases h; exact Nat.ne_of_beq_eq_false rfl) | cases h
  | 39, h => left; simp only [am_se, s_ifc, am_nx, am_jp] at h; (repeat' split at h) <;> first | (cases h; exact Nat.ne_of_beq_eq_false rfl) | cases h
  | 40, h => left; simp only [am_se, s_icmp, am_nx, am_jp] at h; (repeat' split at h) <;> first | (cases h; exact Nat.ne_of_beq_eq_false rfl) | cases h
  | 41, h => left; simp only [am_se, s_goto, am_nx, am_jp] at h; (repeat' split at h) <;> first | (cases h; exact Nat.ne_of_beq_eq_false rfl) | cases h
  | 42, h => left; simp only [am_se, s_tsw, am_nx, am_jp] at h; (repeat' split at h) <;> first | (cases h; exact Nat.ne_of_beq_eq_false rfl) | cases h
  | 43, h => left; simp only [am_se, s_lsw, am_nx, am_jp] at h; (repeat' split at h) <;> first | (cases h; exact Nat.ne_of_beq_eq_false rfl) | cases h
  | 44, h => left; simp only [am_se, s_gI, am_nx, am_jp] at h; (repeat' split at h) <;> first | (cases h; exact Nat.ne_of_beq_eq_false rfl) | cases h
  | 45, h => left; simp only [am_se, s_gR, am_nx, am_jp] at h; (repeat' split at h) <;> first | (cases h; exact Nat.ne_of_beq_eq_false rfl) | cases h
  | 46, h => left; simp only [am_se, s_pI, am_nx, am_jp] at h; (repeat' split at h) <;> first | (cases h; exact Nat.ne_of_beq_eq_false rfl) | cases h
  | 47, h => left; simp only [am_se, s_pZ, am_nx, am_jp] at h; (repeat' split at h) <;> first | (cases h; exact Nat.ne_of_beq_eq_false rfl) | cases h
  | 48, h => left; simp only [am_se, s_pF, am_nx, am_jp] at h; (repeat' split at h) <;> first | (cases h; exact Nat.ne_of_beq_eq_false rfl) | cases h
  | 49, h => left; simp only [am_se, s_iald, am_nx, am_jp] at h; (repeat' split at h) <;> first | (cases h; exact Nat.ne_of_beq_eq_false rfl) | cases h
  | 50, h => left; simp only [am_se, s_iast, am_nx, am_jp] at h; (repeat' split at h) <;> first | (cases h; exact Nat.ne_of_beq_eq_false rfl) | cases h
  | 51, h => left; simp only [am_se, s_lald, am_nx, am_jp] at h; (repeat' split at h) <;> first | (cases h; exact Nat.ne_of_beq_eq_false rfl) | cases h
  | 52, h => left; simp only [am_se, s_last, am_nx, am_jp] at h; (repeat' split at h) <;> first | (cases h; exact Nat.ne_of_beq_eq_false rfl) | cases h
  | 53, h => left; simp only [am_se, s_aald, am_nx, am_jp] at h; (repeat' split at h) <;> first | (cases h; exact Nat.ne_of_beq_eq_false rfl) | cases h
  | 54, h => left; simp only [am_se, s_aast, am_nx, am_jp] at h; (repeat' split at h) <;> first | (cases h; exact Nat.ne_of_beq_eq_false rfl) | cases h
  | 55, h => left; simp only [am_se, s_alen, am_nx, am_jp] at h; (repeat' split at h) <;> first | (cases h; exact Nat.ne_of_beq_eq_false rfl) | cases h
  | 56, h => left; simp only [am_se, s_narr, am_nx, am_jp] at h; (repeat' split at h) <;> first | (cases h; exact Nat.ne_of_beq_eq_false rfl) | cases h
  | 57, h => left; simp only [am_se, s_anew, am_nx, am_jp] at h; (repeat' split at h) <;> first | (cases h; exact Nat.ne_of_beq_eq_false rfl) | cases h
  | 58, h => left; simp only [am_se, s_new, am_nx, am_jp] at h; (repeat' split at h) <;> first | (cases h; exact Nat.ne_of_beq_eq_false rfl) | cases h
  | 59, _ => exact Or.inr rfl
  | 60, h => left; simp only [am_se, s_oini, am_nx, am_jp] at h; (repeat' split at h) <;> first | (cases h; exact Nat.ne_of_beq_eq_false rfl) | cases h
  | 61, h => left; simp only [am_se, s_acpy, am_nx, am_jp] at h; (repeat' split at h) <;> first | (cases h; exact Nat.ne_of_beq_eq_false rfl) | cases h
  | 62, h => left; simp only [am_se, s_iret, am_nx, am_jp] at h; (repeat' split at h) <;> first | (cases h; exact Nat.ne_of_beq_eq_false rfl) | cases h
  | 63, h => left; simp only [am_se, s_zret, am_nx, am_jp] at h; (repeat' split at h) <;> first | (cases h; exact Nat.ne_of_beq_eq_false rfl) | cases h
  | 64, h => left; simp only [am_se, s_lret, am_nx, am_jp] at h; (repeat' split at h) <;> first | (cases h; exact Nat.ne_of_beq_eq_false rfl) | cases h
  | 65, h => left; simp only [am_se, s_vret, am_nx, am_jp] at h; (repeat' split at h) <;> first | (cases h; exact Nat.ne_of_beq_eq_false rfl) | cases h
  | 66, h => left; simp only [am_se, s_mx, am_nx, am_jp] at h; (repeat' split at h) <;> first | (cases h; exact Nat.ne_of_beq_eq_false rfl) | cases h
  | 67, h => left; simp only [am_se, s_mn, am_nx, am_jp] at h; (repeat' split at h) <;> first | (cases h; exact Nat.ne_of_beq_eq_false rfl) | cases h
  | n + 68, h => cases h
theorem am_c2 {mi i t : Nat} {a : am_I} {L S L' S' : List am_V} {st s' : am_S} (hk : am_chk mi i a = true) (h : am_se a L S st = some (2, t, L', S', s')) : t < 232 ∧ L'.map am_cat = am_wi t ∧ s' = st := by
  rcases am_k2 h with h2 | h2
  · exact absurd rfl h2
  · obtain ⟨k, ps⟩ := a
    dsimp only at h2
    subst h2
    have hk : c_call mi i ps = true := hk
    simp only [c_call, Bool.and_eq_true, decide_eq_true_eq] at hk
    have hm := hk.1.1.1.1.1.1.1.1.1
    simp only [am_se, s_call] at h
    split at h
    · next hok =>
      cases h
      have hck := hok.2
      simp only [am_ck, Bool.and_eq_true, decide_eq_true_eq] at hck
      exact ⟨hm, hck.1, rfl⟩
    · cases h
theorem am_pc0 : ∀ m : Nat, m < 232 + 1 → am_pc m 0 = 0 := by decide +kernel
theorem am_en_LH {g : am_G} {m : Nat} {As : List am_V} (hw : As.map am_cat = am_wi m) (hs : (am_wi m).sum ≤ am_mx m) : am_LH g ((lg_sl (am_vs g As) ++ List.replicate (am_mx m - (lg_sl (am_vs g As)).length) Slot.unset).toArray) (am_mx m) (am_en m As) := by
  have hl : (lg_sl (am_vs g As)).length = (am_wi m).sum := by rw [lg_sl_len, hw]
  have h := lv_entry (am_vs g As) (n := am_mx m) (by rw [hl]; exact hs)
  refine ⟨h.1, h.2.1, ?_, fun i v hv h3 => ?_⟩
  · unfold am_en
    rw [List.length_append, am_en_len hw, List.length_replicate]
    omega
  · unfold am_en at hv
    by_cases hi : i < (am_pl (am_wi m) As).length
    · rw [List.getElem?_append_left hi, ← hw] at hv
      have := am_sl_vs g As 0 i v hv h3
      rw [Nat.zero_add] at this
      exact h.2.2 _ this
    · rw [List.getElem?_append_right (by omega)] at hv
      have := List.mem_of_getElem? hv
      rw [(List.mem_replicate.mp this).2] at h3
      exact absurd h3 (by decide)
set_option maxHeartbeats 4000000 in
theorem am_MO_of {n : Nat} (hP : am_SimP n) {l : Launch} {g : am_G} {m' : Nat} {As : List am_V} {st st2 : am_S} {rv : am_V} (hm : m' < 232) (hw : As.map am_cat = am_wi m') (hc : am_Ca g As [] st) (hrun : am_run n m' (am_pr m') (am_en m' As) [] st = some (rv, st2)) : am_MO l g m' As st rv st2 := by
  have hmt := am_mth_ok _ hm
  simp only [c_mth, Bool.and_eq_true, decide_eq_true_eq] at hmt
  obtain ⟨⟨⟨⟨⟨w2, w3⟩, w4⟩, w5⟩, w6⟩, w7⟩ := hmt
  unfold am_MO
  refine Met.ofW (cc := am_by m') (maxL := am_mx m') (ret := am_rt m') w3 rfl ?_
  intro p e s m args below meth c s₁ B hml hv
  obtain ⟨rfl, hsz, hPP, hSB⟩ := hv
  have hts := atoms_spec (ws := am_wr m') B.pre
  have C : am_Cx m' p (am_rm m' st st2) s m (am_vs g As).toArray meth c g st.1 st2.1 := ⟨B.exec, B.bytes, hml, findClass_of_methodNamed B.named, fun w hw => hts w (List.mem_cons_of_mem _ hw), fun hin => (name_of_methodNamed B.named B.method).1.trans hin, hSB, hsz, Nat.le_refl _, Nat.le_refl _, Nat.le_refl _, Nat.le_refl _, B.returns, B.notSynchronized⟩
  have hW := hP m' p l e (am_rm m' st st2) s m (am_vs g As).toArray below meth c (MQ below (am_Qc g rv st2) (am_vs g As).toArray s (st2.1 - st.1) (am_sl st2.1 - am_sl st.1) (fun q => g.1 ≤ q)) g st.1 rv st2 C (fun i L S hE => am_end_ok C hE) 0 (am_en m' As) [] st (am_en_can hc) (by rw [List.drop_zero]; exact hrun)
  rw [lg_entry_eq]
  have hW := hW _ s.heap [] (am_en_LH hw w7) hPP va_S.rf (Nat.le_refl _)
  rw [Nat.sub_self, Nat.sub_self, am_pc0 m' (by omega)] at hW
  exact hW
set_option maxHeartbeats 4000000 in
theorem am_sim (hall : am_All) : ∀ n : Nat, am_SimP n := by
  intro n
  induction n with
  | zero =>
    intro mi p l e R s m args below meth c Q g n0 rv stE C hR i L S st hc h
    cases h
  | succ n ih =>
    intro mi p l e R s m args below meth c Q g n0 rv stE C hR i L S st hc h
    have hmono := (am_rc hall g _ _ _ _ _ _ _ _ h hc).2
    cases hd : (am_pr mi).drop i with
    | nil => rw [hd] at h; cases h
    | cons a is =>
      obtain ⟨ha, his⟩ := am_drop hd
      have hk := hall mi i a ha
      rw [hd, am_run] at h
      cases hse : am_se a L S st with
      | none => rw [hse] at h; cases h
      | some r0 =>
        rw [hse] at h
        have hSp := am_good hk p l e R s m args below meth c Q g n0 stE.1 C L S st r0 hc hse
        obtain ⟨k, t, L', S', s'⟩ := r0
        obtain ⟨hp1, hp2⟩ := am_can hk hse hc
        dsimp only at hp1 hp2
        match k, h with
        | 0, h =>
          try dsimp only at h
          rw [his] at h
          have q := (am_rc hall g _ _ _ _ _ _ _ _ h hp1).2
          exact hSp.1 rfl q (ih mi p l e R s m args below meth c Q g n0 rv stE C hR (i + 1) L' S' s' hp1 h)
        | 1, h =>
          try dsimp only at h
          exact hSp.2.1 rfl (ih mi p l e R s m args below meth c Q g n0 rv stE C hR t L' S' s' hp1 h)
        | 2, h =>
          have h : (match am_run n t (am_pr t) (am_en t L') [] s' with
            | some (r1, st1) => am_run n mi is L (am_pu r1 S') st1
            | none => none) = some (rv, stE) := h
          split at h
          · next r1 st1 h1 =>
            rw [his] at h
            obtain ⟨c1, c2, c3⟩ := am_c2 hk hse
            subst c3
            have hcA : am_Ca g L' [] s' := ⟨hp1.1, (fun v hv => nomatch hv), hp1.2.2⟩
            have q1 := am_rc hall g n t 0 (am_en t L') [] s' r1 st1 (by rw [List.drop_zero]; exact h1) (am_en_can hcA)
            have hcN := am_pu_can hc.1 hp1.2.1 q1.1
            have q2 := (am_rc hall g _ _ _ _ _ _ _ _ h hcN).2
            exact hSp.2.2 rfl r1 st1 (am_MO_of ih c1 c2 hcA h1) q2 q1.2 (ih mi p l e R s m args below meth c Q g n0 rv stE C hR (i + 1) L (am_pu r1 S') st1 hcN h)
          · cases h
        | k + 3, h =>
          obtain ⟨v, e1, e2, hE⟩ := am_ends hk hse (by dsimp only; omega)
          dsimp only at e1 e2
          subst e1
          subst e2
          try dsimp only at h
          cases h
          exact hR i L S hE
end
section
def am_ok (m a n : Nat) : Bool := ((((am_pr m).drop a).take n).zipIdx).all (fun q => am_chk m (a + q.2) q.1)
theorem am_ok_of {m a n i : Nat} {x : am_I} (h : am_ok m a n = true) (h1 : a ≤ i) (h2 : i < a + n) (hx : (am_pr m)[i]? = some x) : am_chk m i x = true := by
  unfold am_ok at h
  have hm : (x, i - a) ∈ (((am_pr m).drop a).take n).zipIdx := by
    refine List.mem_of_getElem? (i := i - a) ?_
    rw [List.getElem?_zipIdx, List.getElem?_take_of_lt (by omega), List.getElem?_drop, show a + (i - a) = i by omega, hx]
    simp
  have := List.all_eq_true.mp h _ hm
  rwa [show a + (i - a) = i by omega] at this
theorem ok_0_0 : am_ok 0 0 33 = true := by decide +kernel
theorem okm_0 {i : Nat} {x : am_I} (hx : (am_pr 0)[i]? = some x) : am_chk 0 i x = true := by
  have hl : i < 33 := (List.getElem?_eq_some_iff.mp hx).1
  exact am_ok_of ok_0_0 (by omega) (by omega) hx
theorem ok_1_0 : am_ok 1 0 10 = true := by decide +kernel
theorem okm_1 {i : Nat} {x : am_I} (hx : (am_pr 1)[i]? = some x) : am_chk 1 i x = true := by
  have hl : i < 10 := (List.getElem?_eq_some_iff.mp hx).1
  exact am_ok_of ok_1_0 (by omega) (by omega) hx
theorem ok_2_0 : am_ok 2 0 25 = true := by decide +kernel
theorem okm_2 {i : Nat} {x : am_I} (hx : (am_pr 2)[i]? = some x) : am_chk 2 i x = true := by
  have hl : i < 25 := (List.getElem?_eq_some_iff.mp hx).1
  exact am_ok_of ok_2_0 (by omega) (by omega) hx
theorem ok_3_0 : am_ok 3 0 27 = true := by decide +kernel
theorem okm_3 {i : Nat} {x : am_I} (hx : (am_pr 3)[i]? = some x) : am_chk 3 i x = true := by
  have hl : i < 27 := (List.getElem?_eq_some_iff.mp hx).1
  exact am_ok_of ok_3_0 (by omega) (by omega) hx
theorem ok_4_0 : am_ok 4 0 23 = true := by decide +kernel
theorem okm_4 {i : Nat} {x : am_I} (hx : (am_pr 4)[i]? = some x) : am_chk 4 i x = true := by
  have hl : i < 23 := (List.getElem?_eq_some_iff.mp hx).1
  exact am_ok_of ok_4_0 (by omega) (by omega) hx
theorem ok_5_0 : am_ok 5 0 27 = true := by decide +kernel
theorem okm_5 {i : Nat} {x : am_I} (hx : (am_pr 5)[i]? = some x) : am_chk 5 i x = true := by
  have hl : i < 27 := (List.getElem?_eq_some_iff.mp hx).1
  exact am_ok_of ok_5_0 (by omega) (by omega) hx
theorem ok_6_0 : am_ok 6 0 13 = true := by decide +kernel
theorem okm_6 {i : Nat} {x : am_I} (hx : (am_pr 6)[i]? = some x) : am_chk 6 i x = true := by
  have hl : i < 13 := (List.getElem?_eq_some_iff.mp hx).1
  exact am_ok_of ok_6_0 (by omega) (by omega) hx
theorem ok_7_0 : am_ok 7 0 16 = true := by decide +kernel
theorem okm_7 {i : Nat} {x : am_I} (hx : (am_pr 7)[i]? = some x) : am_chk 7 i x = true := by
  have hl : i < 16 := (List.getElem?_eq_some_iff.mp hx).1
  exact am_ok_of ok_7_0 (by omega) (by omega) hx
theorem ok_8_0 : am_ok 8 0 41 = true := by decide +kernel
theorem okm_8 {i : Nat} {x : am_I} (hx : (am_pr 8)[i]? = some x) : am_chk 8 i x = true := by
  have hl : i < 41 := (List.getElem?_eq_some_iff.mp hx).1
  exact am_ok_of ok_8_0 (by omega) (by omega) hx
theorem ok_9_0 : am_ok 9 0 21 = true := by decide +kernel
theorem okm_9 {i : Nat} {x : am_I} (hx : (am_pr 9)[i]? = some x) : am_chk 9 i x = true := by
  have hl : i < 21 := (List.getElem?_eq_some_iff.mp hx).1
  exact am_ok_of ok_9_0 (by omega) (by omega) hx
theorem ok_10_0 : am_ok 10 0 60 = true := by decide +kernel
theorem ok_10_60 : am_ok 10 60 22 = true := by decide +kernel
theorem okm_10 {i : Nat} {x : am_I} (hx : (am_pr 10)[i]? = some x) : am_chk 10 i x = true := by
  have hl : i < 82 := (List.getElem?_eq_some_iff.mp hx).1
  by_cases h60 : i < 60
  · exact am_ok_of ok_10_0 (by omega) (by omega) hx
  exact am_ok_of ok_10_60 (by omega) (by omega) hx
theorem ok_11_0 : am_ok 11 0 60 = true := by decide +kernel
theorem ok_11_60 : am_ok 11 60 8 = true := by decide +kernel
theorem okm_11 {i : Nat} {x : am_I} (hx : (am_pr 11)[i]? = some x) : am_chk 11 i x = true := by
  have hl : i < 68 := (List.getElem?_eq_some_iff.mp hx).1
  by_cases h60 : i < 60
  · exact am_ok_of ok_11_0 (by omega) (by omega) hx
  exact am_ok_of ok_11_60 (by omega) (by omega) hx
theorem ok_12_0 : am_ok 12 0 9 = true := by decide +kernel
theorem okm_12 {i : Nat} {x : am_I} (hx : (am_pr 12)[i]? = some x) : am_chk 12 i x = true := by
  have hl : i < 9 := (List.getElem?_eq_some_iff.mp hx).1
  exact am_ok_of ok_12_0 (by omega) (by omega) hx
theorem ok_13_0 : am_ok 13 0 21 = true := by decide +kernel
theorem okm_13 {i : Nat} {x : am_I} (hx : (am_pr 13)[i]? = some x) : am_chk 13 i x = true := by
  have hl : i < 21 := (List.getElem?_eq_some_iff.mp hx).1
  exact am_ok_of ok_13_0 (by omega) (by omega) hx
theorem ok_14_0 : am_ok 14 0 18 = true := by decide +kernel
theorem okm_14 {i : Nat} {x : am_I} (hx : (am_pr 14)[i]? = some x) : am_chk 14 i x = true := by
  have hl : i < 18 := (List.getElem?_eq_some_iff.mp hx).1
  exact am_ok_of ok_14_0 (by omega) (by omega) hx
theorem ok_15_0 : am_ok 15 0 15 = true := by decide +kernel
theorem okm_15 {i : Nat} {x : am_I} (hx : (am_pr 15)[i]? = some x) : am_chk 15 i x = true := by
  have hl : i < 15 := (List.getElem?_eq_some_iff.mp hx).1
  exact am_ok_of ok_15_0 (by omega) (by omega) hx
theorem ok_16_0 : am_ok 16 0 25 = true := by decide +kernel
theorem okm_16 {i : Nat} {x : am_I} (hx : (am_pr 16)[i]? = some x) : am_chk 16 i x = true := by
  have hl : i < 25 := (List.getElem?_eq_some_iff.mp hx).1
  exact am_ok_of ok_16_0 (by omega) (by omega) hx
theorem ok_17_0 : am_ok 17 0 10 = true := by decide +kernel
theorem okm_17 {i : Nat} {x : am_I} (hx : (am_pr 17)[i]? = some x) : am_chk 17 i x = true := by
  have hl : i < 10 := (List.getElem?_eq_some_iff.mp hx).1
  exact am_ok_of ok_17_0 (by omega) (by omega) hx
theorem ok_18_0 : am_ok 18 0 6 = true := by decide +kernel
theorem okm_18 {i : Nat} {x : am_I} (hx : (am_pr 18)[i]? = some x) : am_chk 18 i x = true := by
  have hl : i < 6 := (List.getElem?_eq_some_iff.mp hx).1
  exact am_ok_of ok_18_0 (by omega) (by omega) hx
theorem ok_19_0 : am_ok 19 0 41 = true := by decide +kernel
theorem okm_19 {i : Nat} {x : am_I} (hx : (am_pr 19)[i]? = some x) : am_chk 19 i x = true := by
  have hl : i < 41 := (List.getElem?_eq_some_iff.mp hx).1
  exact am_ok_of ok_19_0 (by omega) (by omega) hx
theorem ok_20_0 : am_ok 20 0 26 = true := by decide +kernel
theorem okm_20 {i : Nat} {x : am_I} (hx : (am_pr 20)[i]? = some x) : am_chk 20 i x = true := by
  have hl : i < 26 := (List.getElem?_eq_some_iff.mp hx).1
  exact am_ok_of ok_20_0 (by omega) (by omega) hx
theorem ok_21_0 : am_ok 21 0 18 = true := by decide +kernel
theorem okm_21 {i : Nat} {x : am_I} (hx : (am_pr 21)[i]? = some x) : am_chk 21 i x = true := by
  have hl : i < 18 := (List.getElem?_eq_some_iff.mp hx).1
  exact am_ok_of ok_21_0 (by omega) (by omega) hx
theorem ok_22_0 : am_ok 22 0 42 = true := by decide +kernel
theorem okm_22 {i : Nat} {x : am_I} (hx : (am_pr 22)[i]? = some x) : am_chk 22 i x = true := by
  have hl : i < 42 := (List.getElem?_eq_some_iff.mp hx).1
  exact am_ok_of ok_22_0 (by omega) (by omega) hx
theorem ok_23_0 : am_ok 23 0 21 = true := by decide +kernel
theorem okm_23 {i : Nat} {x : am_I} (hx : (am_pr 23)[i]? = some x) : am_chk 23 i x = true := by
  have hl : i < 21 := (List.getElem?_eq_some_iff.mp hx).1
  exact am_ok_of ok_23_0 (by omega) (by omega) hx
theorem ok_24_0 : am_ok 24 0 49 = true := by decide +kernel
theorem okm_24 {i : Nat} {x : am_I} (hx : (am_pr 24)[i]? = some x) : am_chk 24 i x = true := by
  have hl : i < 49 := (List.getElem?_eq_some_iff.mp hx).1
  exact am_ok_of ok_24_0 (by omega) (by omega) hx
theorem ok_25_0 : am_ok 25 0 6 = true := by decide +kernel
theorem okm_25 {i : Nat} {x : am_I} (hx : (am_pr 25)[i]? = some x) : am_chk 25 i x = true := by
  have hl : i < 6 := (List.getElem?_eq_some_iff.mp hx).1
  exact am_ok_of ok_25_0 (by omega) (by omega) hx
theorem ok_26_0 : am_ok 26 0 60 = true := by decide +kernel
theorem ok_26_60 : am_ok 26 60 43 = true := by decide +kernel
theorem okm_26 {i : Nat} {x : am_I} (hx : (am_pr 26)[i]? = some x) : am_chk 26 i x = true := by
  have hl : i < 103 := (List.getElem?_eq_some_iff.mp hx).1
  by_cases h60 : i < 60
  · exact am_ok_of ok_26_0 (by omega) (by omega) hx
  exact am_ok_of ok_26_60 (by omega) (by omega) hx
theorem ok_27_0 : am_ok 27 0 5 = true := by decide +kernel
theorem okm_27 {i : Nat} {x : am_I} (hx : (am_pr 27)[i]? = some x) : am_chk 27 i x = true := by
  have hl : i < 5 := (List.getElem?_eq_some_iff.mp hx).1
  exact am_ok_of ok_27_0 (by omega) (by omega) hx
theorem ok_28_0 : am_ok 28 0 5 = true := by decide +kernel
theorem okm_28 {i : Nat} {x : am_I} (hx : (am_pr 28)[i]? = some x) : am_chk 28 i x = true := by
  have hl : i < 5 := (List.getElem?_eq_some_iff.mp hx).1
  exact am_ok_of ok_28_0 (by omega) (by omega) hx
theorem ok_29_0 : am_ok 29 0 10 = true := by decide +kernel
theorem okm_29 {i : Nat} {x : am_I} (hx : (am_pr 29)[i]? = some x) : am_chk 29 i x = true := by
  have hl : i < 10 := (List.getElem?_eq_some_iff.mp hx).1
  exact am_ok_of ok_29_0 (by omega) (by omega) hx
theorem ok_30_0 : am_ok 30 0 13 = true := by decide +kernel
theorem okm_30 {i : Nat} {x : am_I} (hx : (am_pr 30)[i]? = some x) : am_chk 30 i x = true := by
  have hl : i < 13 := (List.getElem?_eq_some_iff.mp hx).1
  exact am_ok_of ok_30_0 (by omega) (by omega) hx
theorem ok_31_0 : am_ok 31 0 31 = true := by decide +kernel
theorem okm_31 {i : Nat} {x : am_I} (hx : (am_pr 31)[i]? = some x) : am_chk 31 i x = true := by
  have hl : i < 31 := (List.getElem?_eq_some_iff.mp hx).1
  exact am_ok_of ok_31_0 (by omega) (by omega) hx
theorem ok_32_0 : am_ok 32 0 10 = true := by decide +kernel
theorem okm_32 {i : Nat} {x : am_I} (hx : (am_pr 32)[i]? = some x) : am_chk 32 i x = true := by
  have hl : i < 10 := (List.getElem?_eq_some_iff.mp hx).1
  exact am_ok_of ok_32_0 (by omega) (by omega) hx
theorem ok_33_0 : am_ok 33 0 10 = true := by decide +kernel
theorem okm_33 {i : Nat} {x : am_I} (hx : (am_pr 33)[i]? = some x) : am_chk 33 i x = true := by
  have hl : i < 10 := (List.getElem?_eq_some_iff.mp hx).1
  exact am_ok_of ok_33_0 (by omega) (by omega) hx
theorem ok_34_0 : am_ok 34 0 11 = true := by decide +kernel
theorem okm_34 {i : Nat} {x : am_I} (hx : (am_pr 34)[i]? = some x) : am_chk 34 i x = true := by
  have hl : i < 11 := (List.getElem?_eq_some_iff.mp hx).1
  exact am_ok_of ok_34_0 (by omega) (by omega) hx
theorem ok_35_0 : am_ok 35 0 24 = true := by decide +kernel
theorem okm_35 {i : Nat} {x : am_I} (hx : (am_pr 35)[i]? = some x) : am_chk 35 i x = true := by
  have hl : i < 24 := (List.getElem?_eq_some_iff.mp hx).1
  exact am_ok_of ok_35_0 (by omega) (by omega) hx
theorem ok_36_0 : am_ok 36 0 34 = true := by decide +kernel
theorem okm_36 {i : Nat} {x : am_I} (hx : (am_pr 36)[i]? = some x) : am_chk 36 i x = true := by
  have hl : i < 34 := (List.getElem?_eq_some_iff.mp hx).1
  exact am_ok_of ok_36_0 (by omega) (by omega) hx
theorem ok_37_0 : am_ok 37 0 15 = true := by decide +kernel
theorem okm_37 {i : Nat} {x : am_I} (hx : (am_pr 37)[i]? = some x) : am_chk 37 i x = true := by
  have hl : i < 15 := (List.getElem?_eq_some_iff.mp hx).1
  exact am_ok_of ok_37_0 (by omega) (by omega) hx
theorem ok_38_0 : am_ok 38 0 24 = true := by decide +kernel
theorem okm_38 {i : Nat} {x : am_I} (hx : (am_pr 38)[i]? = some x) : am_chk 38 i x = true := by
  have hl : i < 24 := (List.getElem?_eq_some_iff.mp hx).1
  exact am_ok_of ok_38_0 (by omega) (by omega) hx
theorem ok_39_0 : am_ok 39 0 26 = true := by decide +kernel
theorem okm_39 {i : Nat} {x : am_I} (hx : (am_pr 39)[i]? = some x) : am_chk 39 i x = true := by
  have hl : i < 26 := (List.getElem?_eq_some_iff.mp hx).1
  exact am_ok_of ok_39_0 (by omega) (by omega) hx
theorem ok_40_0 : am_ok 40 0 22 = true := by decide +kernel
theorem okm_40 {i : Nat} {x : am_I} (hx : (am_pr 40)[i]? = some x) : am_chk 40 i x = true := by
  have hl : i < 22 := (List.getElem?_eq_some_iff.mp hx).1
  exact am_ok_of ok_40_0 (by omega) (by omega) hx
theorem ok_41_0 : am_ok 41 0 22 = true := by decide +kernel
theorem okm_41 {i : Nat} {x : am_I} (hx : (am_pr 41)[i]? = some x) : am_chk 41 i x = true := by
  have hl : i < 22 := (List.getElem?_eq_some_iff.mp hx).1
  exact am_ok_of ok_41_0 (by omega) (by omega) hx
theorem ok_42_0 : am_ok 42 0 40 = true := by decide +kernel
theorem okm_42 {i : Nat} {x : am_I} (hx : (am_pr 42)[i]? = some x) : am_chk 42 i x = true := by
  have hl : i < 40 := (List.getElem?_eq_some_iff.mp hx).1
  exact am_ok_of ok_42_0 (by omega) (by omega) hx
theorem ok_43_0 : am_ok 43 0 8 = true := by decide +kernel
theorem okm_43 {i : Nat} {x : am_I} (hx : (am_pr 43)[i]? = some x) : am_chk 43 i x = true := by
  have hl : i < 8 := (List.getElem?_eq_some_iff.mp hx).1
  exact am_ok_of ok_43_0 (by omega) (by omega) hx
theorem ok_44_0 : am_ok 44 0 50 = true := by decide +kernel
theorem okm_44 {i : Nat} {x : am_I} (hx : (am_pr 44)[i]? = some x) : am_chk 44 i x = true := by
  have hl : i < 50 := (List.getElem?_eq_some_iff.mp hx).1
  exact am_ok_of ok_44_0 (by omega) (by omega) hx
theorem ok_45_0 : am_ok 45 0 29 = true := by decide +kernel
theorem okm_45 {i : Nat} {x : am_I} (hx : (am_pr 45)[i]? = some x) : am_chk 45 i x = true := by
  have hl : i < 29 := (List.getElem?_eq_some_iff.mp hx).1
  exact am_ok_of ok_45_0 (by omega) (by omega) hx
theorem ok_46_0 : am_ok 46 0 32 = true := by decide +kernel
theorem okm_46 {i : Nat} {x : am_I} (hx : (am_pr 46)[i]? = some x) : am_chk 46 i x = true := by
  have hl : i < 32 := (List.getElem?_eq_some_iff.mp hx).1
  exact am_ok_of ok_46_0 (by omega) (by omega) hx
theorem ok_47_0 : am_ok 47 0 16 = true := by decide +kernel
theorem okm_47 {i : Nat} {x : am_I} (hx : (am_pr 47)[i]? = some x) : am_chk 47 i x = true := by
  have hl : i < 16 := (List.getElem?_eq_some_iff.mp hx).1
  exact am_ok_of ok_47_0 (by omega) (by omega) hx
theorem ok_48_0 : am_ok 48 0 44 = true := by decide +kernel
theorem okm_48 {i : Nat} {x : am_I} (hx : (am_pr 48)[i]? = some x) : am_chk 48 i x = true := by
  have hl : i < 44 := (List.getElem?_eq_some_iff.mp hx).1
  exact am_ok_of ok_48_0 (by omega) (by omega) hx
theorem ok_49_0 : am_ok 49 0 31 = true := by decide +kernel
theorem okm_49 {i : Nat} {x : am_I} (hx : (am_pr 49)[i]? = some x) : am_chk 49 i x = true := by
  have hl : i < 31 := (List.getElem?_eq_some_iff.mp hx).1
  exact am_ok_of ok_49_0 (by omega) (by omega) hx
theorem ok_50_0 : am_ok 50 0 12 = true := by decide +kernel
theorem okm_50 {i : Nat} {x : am_I} (hx : (am_pr 50)[i]? = some x) : am_chk 50 i x = true := by
  have hl : i < 12 := (List.getElem?_eq_some_iff.mp hx).1
  exact am_ok_of ok_50_0 (by omega) (by omega) hx
theorem ok_51_0 : am_ok 51 0 34 = true := by decide +kernel
theorem okm_51 {i : Nat} {x : am_I} (hx : (am_pr 51)[i]? = some x) : am_chk 51 i x = true := by
  have hl : i < 34 := (List.getElem?_eq_some_iff.mp hx).1
  exact am_ok_of ok_51_0 (by omega) (by omega) hx
theorem ok_52_0 : am_ok 52 0 27 = true := by decide +kernel
theorem okm_52 {i : Nat} {x : am_I} (hx : (am_pr 52)[i]? = some x) : am_chk 52 i x = true := by
  have hl : i < 27 := (List.getElem?_eq_some_iff.mp hx).1
  exact am_ok_of ok_52_0 (by omega) (by omega) hx
theorem ok_53_0 : am_ok 53 0 60 = true := by decide +kernel
theorem ok_53_60 : am_ok 53 60 31 = true := by decide +kernel
theorem okm_53 {i : Nat} {x : am_I} (hx : (am_pr 53)[i]? = some x) : am_chk 53 i x = true := by
  have hl : i < 91 := (List.getElem?_eq_some_iff.mp hx).1
  by_cases h60 : i < 60
  · exact am_ok_of ok_53_0 (by omega) (by omega) hx
  exact am_ok_of ok_53_60 (by omega) (by omega) hx
theorem ok_54_0 : am_ok 54 0 17 = true := by decide +kernel
theorem okm_54 {i : Nat} {x : am_I} (hx : (am_pr 54)[i]? = some x) : am_chk 54 i x = true := by
  have hl : i < 17 := (List.getElem?_eq_some_iff.mp hx).1
  exact am_ok_of ok_54_0 (by omega) (by omega) hx
theorem ok_55_0 : am_ok 55 0 42 = true := by decide +kernel
theorem okm_55 {i : Nat} {x : am_I} (hx : (am_pr 55)[i]? = some x) : am_chk 55 i x = true := by
  have hl : i < 42 := (List.getElem?_eq_some_iff.mp hx).1
  exact am_ok_of ok_55_0 (by omega) (by omega) hx
theorem ok_56_0 : am_ok 56 0 37 = true := by decide +kernel
theorem okm_56 {i : Nat} {x : am_I} (hx : (am_pr 56)[i]? = some x) : am_chk 56 i x = true := by
  have hl : i < 37 := (List.getElem?_eq_some_iff.mp hx).1
  exact am_ok_of ok_56_0 (by omega) (by omega) hx
theorem ok_57_0 : am_ok 57 0 32 = true := by decide +kernel
theorem okm_57 {i : Nat} {x : am_I} (hx : (am_pr 57)[i]? = some x) : am_chk 57 i x = true := by
  have hl : i < 32 := (List.getElem?_eq_some_iff.mp hx).1
  exact am_ok_of ok_57_0 (by omega) (by omega) hx
theorem ok_58_0 : am_ok 58 0 56 = true := by decide +kernel
theorem okm_58 {i : Nat} {x : am_I} (hx : (am_pr 58)[i]? = some x) : am_chk 58 i x = true := by
  have hl : i < 56 := (List.getElem?_eq_some_iff.mp hx).1
  exact am_ok_of ok_58_0 (by omega) (by omega) hx
theorem ok_59_0 : am_ok 59 0 23 = true := by decide +kernel
theorem okm_59 {i : Nat} {x : am_I} (hx : (am_pr 59)[i]? = some x) : am_chk 59 i x = true := by
  have hl : i < 23 := (List.getElem?_eq_some_iff.mp hx).1
  exact am_ok_of ok_59_0 (by omega) (by omega) hx
theorem ok_60_0 : am_ok 60 0 46 = true := by decide +kernel
theorem okm_60 {i : Nat} {x : am_I} (hx : (am_pr 60)[i]? = some x) : am_chk 60 i x = true := by
  have hl : i < 46 := (List.getElem?_eq_some_iff.mp hx).1
  exact am_ok_of ok_60_0 (by omega) (by omega) hx
theorem ok_61_0 : am_ok 61 0 19 = true := by decide +kernel
theorem okm_61 {i : Nat} {x : am_I} (hx : (am_pr 61)[i]? = some x) : am_chk 61 i x = true := by
  have hl : i < 19 := (List.getElem?_eq_some_iff.mp hx).1
  exact am_ok_of ok_61_0 (by omega) (by omega) hx
theorem ok_62_0 : am_ok 62 0 38 = true := by decide +kernel
theorem okm_62 {i : Nat} {x : am_I} (hx : (am_pr 62)[i]? = some x) : am_chk 62 i x = true := by
  have hl : i < 38 := (List.getElem?_eq_some_iff.mp hx).1
  exact am_ok_of ok_62_0 (by omega) (by omega) hx
theorem ok_63_0 : am_ok 63 0 38 = true := by decide +kernel
theorem okm_63 {i : Nat} {x : am_I} (hx : (am_pr 63)[i]? = some x) : am_chk 63 i x = true := by
  have hl : i < 38 := (List.getElem?_eq_some_iff.mp hx).1
  exact am_ok_of ok_63_0 (by omega) (by omega) hx
theorem ok_64_0 : am_ok 64 0 18 = true := by decide +kernel
theorem okm_64 {i : Nat} {x : am_I} (hx : (am_pr 64)[i]? = some x) : am_chk 64 i x = true := by
  have hl : i < 18 := (List.getElem?_eq_some_iff.mp hx).1
  exact am_ok_of ok_64_0 (by omega) (by omega) hx
theorem ok_65_0 : am_ok 65 0 23 = true := by decide +kernel
theorem okm_65 {i : Nat} {x : am_I} (hx : (am_pr 65)[i]? = some x) : am_chk 65 i x = true := by
  have hl : i < 23 := (List.getElem?_eq_some_iff.mp hx).1
  exact am_ok_of ok_65_0 (by omega) (by omega) hx
theorem ok_66_0 : am_ok 66 0 28 = true := by decide +kernel
theorem okm_66 {i : Nat} {x : am_I} (hx : (am_pr 66)[i]? = some x) : am_chk 66 i x = true := by
  have hl : i < 28 := (List.getElem?_eq_some_iff.mp hx).1
  exact am_ok_of ok_66_0 (by omega) (by omega) hx
theorem ok_67_0 : am_ok 67 0 40 = true := by decide +kernel
theorem okm_67 {i : Nat} {x : am_I} (hx : (am_pr 67)[i]? = some x) : am_chk 67 i x = true := by
  have hl : i < 40 := (List.getElem?_eq_some_iff.mp hx).1
  exact am_ok_of ok_67_0 (by omega) (by omega) hx
theorem ok_68_0 : am_ok 68 0 14 = true := by decide +kernel
theorem okm_68 {i : Nat} {x : am_I} (hx : (am_pr 68)[i]? = some x) : am_chk 68 i x = true := by
  have hl : i < 14 := (List.getElem?_eq_some_iff.mp hx).1
  exact am_ok_of ok_68_0 (by omega) (by omega) hx
theorem ok_69_0 : am_ok 69 0 5 = true := by decide +kernel
theorem okm_69 {i : Nat} {x : am_I} (hx : (am_pr 69)[i]? = some x) : am_chk 69 i x = true := by
  have hl : i < 5 := (List.getElem?_eq_some_iff.mp hx).1
  exact am_ok_of ok_69_0 (by omega) (by omega) hx
theorem ok_70_0 : am_ok 70 0 44 = true := by decide +kernel
theorem okm_70 {i : Nat} {x : am_I} (hx : (am_pr 70)[i]? = some x) : am_chk 70 i x = true := by
  have hl : i < 44 := (List.getElem?_eq_some_iff.mp hx).1
  exact am_ok_of ok_70_0 (by omega) (by omega) hx
theorem ok_71_0 : am_ok 71 0 11 = true := by decide +kernel
theorem okm_71 {i : Nat} {x : am_I} (hx : (am_pr 71)[i]? = some x) : am_chk 71 i x = true := by
  have hl : i < 11 := (List.getElem?_eq_some_iff.mp hx).1
  exact am_ok_of ok_71_0 (by omega) (by omega) hx
theorem ok_72_0 : am_ok 72 0 10 = true := by decide +kernel
theorem okm_72 {i : Nat} {x : am_I} (hx : (am_pr 72)[i]? = some x) : am_chk 72 i x = true := by
  have hl : i < 10 := (List.getElem?_eq_some_iff.mp hx).1
  exact am_ok_of ok_72_0 (by omega) (by omega) hx
theorem ok_73_0 : am_ok 73 0 13 = true := by decide +kernel
theorem okm_73 {i : Nat} {x : am_I} (hx : (am_pr 73)[i]? = some x) : am_chk 73 i x = true := by
  have hl : i < 13 := (List.getElem?_eq_some_iff.mp hx).1
  exact am_ok_of ok_73_0 (by omega) (by omega) hx
theorem ok_74_0 : am_ok 74 0 19 = true := by decide +kernel
theorem okm_74 {i : Nat} {x : am_I} (hx : (am_pr 74)[i]? = some x) : am_chk 74 i x = true := by
  have hl : i < 19 := (List.getElem?_eq_some_iff.mp hx).1
  exact am_ok_of ok_74_0 (by omega) (by omega) hx
theorem ok_75_0 : am_ok 75 0 32 = true := by decide +kernel
theorem okm_75 {i : Nat} {x : am_I} (hx : (am_pr 75)[i]? = some x) : am_chk 75 i x = true := by
  have hl : i < 32 := (List.getElem?_eq_some_iff.mp hx).1
  exact am_ok_of ok_75_0 (by omega) (by omega) hx
theorem ok_76_0 : am_ok 76 0 27 = true := by decide +kernel
theorem okm_76 {i : Nat} {x : am_I} (hx : (am_pr 76)[i]? = some x) : am_chk 76 i x = true := by
  have hl : i < 27 := (List.getElem?_eq_some_iff.mp hx).1
  exact am_ok_of ok_76_0 (by omega) (by omega) hx
theorem ok_77_0 : am_ok 77 0 10 = true := by decide +kernel
theorem okm_77 {i : Nat} {x : am_I} (hx : (am_pr 77)[i]? = some x) : am_chk 77 i x = true := by
  have hl : i < 10 := (List.getElem?_eq_some_iff.mp hx).1
  exact am_ok_of ok_77_0 (by omega) (by omega) hx
theorem ok_78_0 : am_ok 78 0 60 = true := by decide +kernel
theorem ok_78_60 : am_ok 78 60 32 = true := by decide +kernel
theorem okm_78 {i : Nat} {x : am_I} (hx : (am_pr 78)[i]? = some x) : am_chk 78 i x = true := by
  have hl : i < 92 := (List.getElem?_eq_some_iff.mp hx).1
  by_cases h60 : i < 60
  · exact am_ok_of ok_78_0 (by omega) (by omega) hx
  exact am_ok_of ok_78_60 (by omega) (by omega) hx
theorem ok_79_0 : am_ok 79 0 15 = true := by decide +kernel
theorem okm_79 {i : Nat} {x : am_I} (hx : (am_pr 79)[i]? = some x) : am_chk 79 i x = true := by
  have hl : i < 15 := (List.getElem?_eq_some_iff.mp hx).1
  exact am_ok_of ok_79_0 (by omega) (by omega) hx
theorem ok_80_0 : am_ok 80 0 12 = true := by decide +kernel
theorem okm_80 {i : Nat} {x : am_I} (hx : (am_pr 80)[i]? = some x) : am_chk 80 i x = true := by
  have hl : i < 12 := (List.getElem?_eq_some_iff.mp hx).1
  exact am_ok_of ok_80_0 (by omega) (by omega) hx
theorem ok_81_0 : am_ok 81 0 54 = true := by decide +kernel
theorem okm_81 {i : Nat} {x : am_I} (hx : (am_pr 81)[i]? = some x) : am_chk 81 i x = true := by
  have hl : i < 54 := (List.getElem?_eq_some_iff.mp hx).1
  exact am_ok_of ok_81_0 (by omega) (by omega) hx
theorem ok_82_0 : am_ok 82 0 60 = true := by decide +kernel
theorem ok_82_60 : am_ok 82 60 5 = true := by decide +kernel
theorem okm_82 {i : Nat} {x : am_I} (hx : (am_pr 82)[i]? = some x) : am_chk 82 i x = true := by
  have hl : i < 65 := (List.getElem?_eq_some_iff.mp hx).1
  by_cases h60 : i < 60
  · exact am_ok_of ok_82_0 (by omega) (by omega) hx
  exact am_ok_of ok_82_60 (by omega) (by omega) hx
end
section
theorem ok_83_0 : am_ok 83 0 31 = true := by decide +kernel
theorem okm_83 {i : Nat} {x : am_I} (hx : (am_pr 83)[i]? = some x) : am_chk 83 i x = true := by
  have hl : i < 31 := (List.getElem?_eq_some_iff.mp hx).1
  exact am_ok_of ok_83_0 (by omega) (by omega) hx
theorem ok_84_0 : am_ok 84 0 60 = true := by decide +kernel
theorem ok_84_60 : am_ok 84 60 1 = true := by decide +kernel
theorem okm_84 {i : Nat} {x : am_I} (hx : (am_pr 84)[i]? = some x) : am_chk 84 i x = true := by
  have hl : i < 61 := (List.getElem?_eq_some_iff.mp hx).1
  by_cases h60 : i < 60
  · exact am_ok_of ok_84_0 (by omega) (by omega) hx
  exact am_ok_of ok_84_60 (by omega) (by omega) hx
theorem ok_85_0 : am_ok 85 0 47 = true := by decide +kernel
theorem okm_85 {i : Nat} {x : am_I} (hx : (am_pr 85)[i]? = some x) : am_chk 85 i x = true := by
  have hl : i < 47 := (List.getElem?_eq_some_iff.mp hx).1
  exact am_ok_of ok_85_0 (by omega) (by omega) hx
theorem ok_86_0 : am_ok 86 0 27 = true := by decide +kernel
theorem okm_86 {i : Nat} {x : am_I} (hx : (am_pr 86)[i]? = some x) : am_chk 86 i x = true := by
  have hl : i < 27 := (List.getElem?_eq_some_iff.mp hx).1
  exact am_ok_of ok_86_0 (by omega) (by omega) hx
theorem ok_87_0 : am_ok 87 0 39 = true := by decide +kernel
theorem okm_87 {i : Nat} {x : am_I} (hx : (am_pr 87)[i]? = some x) : am_chk 87 i x = true := by
  have hl : i < 39 := (List.getElem?_eq_some_iff.mp hx).1
  exact am_ok_of ok_87_0 (by omega) (by omega) hx
theorem ok_88_0 : am_ok 88 0 25 = true := by decide +kernel
theorem okm_88 {i : Nat} {x : am_I} (hx : (am_pr 88)[i]? = some x) : am_chk 88 i x = true := by
  have hl : i < 25 := (List.getElem?_eq_some_iff.mp hx).1
  exact am_ok_of ok_88_0 (by omega) (by omega) hx
theorem ok_89_0 : am_ok 89 0 23 = true := by decide +kernel
theorem okm_89 {i : Nat} {x : am_I} (hx : (am_pr 89)[i]? = some x) : am_chk 89 i x = true := by
  have hl : i < 23 := (List.getElem?_eq_some_iff.mp hx).1
  exact am_ok_of ok_89_0 (by omega) (by omega) hx
theorem ok_90_0 : am_ok 90 0 14 = true := by decide +kernel
theorem okm_90 {i : Nat} {x : am_I} (hx : (am_pr 90)[i]? = some x) : am_chk 90 i x = true := by
  have hl : i < 14 := (List.getElem?_eq_some_iff.mp hx).1
  exact am_ok_of ok_90_0 (by omega) (by omega) hx
theorem ok_91_0 : am_ok 91 0 22 = true := by decide +kernel
theorem okm_91 {i : Nat} {x : am_I} (hx : (am_pr 91)[i]? = some x) : am_chk 91 i x = true := by
  have hl : i < 22 := (List.getElem?_eq_some_iff.mp hx).1
  exact am_ok_of ok_91_0 (by omega) (by omega) hx
theorem ok_92_0 : am_ok 92 0 22 = true := by decide +kernel
theorem okm_92 {i : Nat} {x : am_I} (hx : (am_pr 92)[i]? = some x) : am_chk 92 i x = true := by
  have hl : i < 22 := (List.getElem?_eq_some_iff.mp hx).1
  exact am_ok_of ok_92_0 (by omega) (by omega) hx
theorem ok_93_0 : am_ok 93 0 16 = true := by decide +kernel
theorem okm_93 {i : Nat} {x : am_I} (hx : (am_pr 93)[i]? = some x) : am_chk 93 i x = true := by
  have hl : i < 16 := (List.getElem?_eq_some_iff.mp hx).1
  exact am_ok_of ok_93_0 (by omega) (by omega) hx
theorem ok_94_0 : am_ok 94 0 56 = true := by decide +kernel
theorem okm_94 {i : Nat} {x : am_I} (hx : (am_pr 94)[i]? = some x) : am_chk 94 i x = true := by
  have hl : i < 56 := (List.getElem?_eq_some_iff.mp hx).1
  exact am_ok_of ok_94_0 (by omega) (by omega) hx
theorem ok_95_0 : am_ok 95 0 24 = true := by decide +kernel
theorem okm_95 {i : Nat} {x : am_I} (hx : (am_pr 95)[i]? = some x) : am_chk 95 i x = true := by
  have hl : i < 24 := (List.getElem?_eq_some_iff.mp hx).1
  exact am_ok_of ok_95_0 (by omega) (by omega) hx
theorem ok_96_0 : am_ok 96 0 19 = true := by decide +kernel
theorem okm_96 {i : Nat} {x : am_I} (hx : (am_pr 96)[i]? = some x) : am_chk 96 i x = true := by
  have hl : i < 19 := (List.getElem?_eq_some_iff.mp hx).1
  exact am_ok_of ok_96_0 (by omega) (by omega) hx
theorem ok_97_0 : am_ok 97 0 60 = true := by decide +kernel
theorem ok_97_60 : am_ok 97 60 56 = true := by decide +kernel
theorem okm_97 {i : Nat} {x : am_I} (hx : (am_pr 97)[i]? = some x) : am_chk 97 i x = true := by
  have hl : i < 116 := (List.getElem?_eq_some_iff.mp hx).1
  by_cases h60 : i < 60
  · exact am_ok_of ok_97_0 (by omega) (by omega) hx
  exact am_ok_of ok_97_60 (by omega) (by omega) hx
theorem ok_98_0 : am_ok 98 0 60 = true := by decide +kernel
theorem ok_98_60 : am_ok 98 60 2 = true := by decide +kernel
theorem okm_98 {i : Nat} {x : am_I} (hx : (am_pr 98)[i]? = some x) : am_chk 98 i x = true := by
  have hl : i < 62 := (List.getElem?_eq_some_iff.mp hx).1
  by_cases h60 : i < 60
  · exact am_ok_of ok_98_0 (by omega) (by omega) hx
  exact am_ok_of ok_98_60 (by omega) (by omega) hx
theorem ok_99_0 : am_ok 99 0 49 = true := by decide +kernel
theorem okm_99 {i : Nat} {x : am_I} (hx : (am_pr 99)[i]? = some x) : am_chk 99 i x = true := by
  have hl : i < 49 := (List.getElem?_eq_some_iff.mp hx).1
  exact am_ok_of ok_99_0 (by omega) (by omega) hx
theorem ok_100_0 : am_ok 100 0 16 = true := by decide +kernel
theorem okm_100 {i : Nat} {x : am_I} (hx : (am_pr 100)[i]? = some x) : am_chk 100 i x = true := by
  have hl : i < 16 := (List.getElem?_eq_some_iff.mp hx).1
  exact am_ok_of ok_100_0 (by omega) (by omega) hx
theorem ok_101_0 : am_ok 101 0 15 = true := by decide +kernel
theorem okm_101 {i : Nat} {x : am_I} (hx : (am_pr 101)[i]? = some x) : am_chk 101 i x = true := by
  have hl : i < 15 := (List.getElem?_eq_some_iff.mp hx).1
  exact am_ok_of ok_101_0 (by omega) (by omega) hx
theorem ok_102_0 : am_ok 102 0 19 = true := by decide +kernel
theorem okm_102 {i : Nat} {x : am_I} (hx : (am_pr 102)[i]? = some x) : am_chk 102 i x = true := by
  have hl : i < 19 := (List.getElem?_eq_some_iff.mp hx).1
  exact am_ok_of ok_102_0 (by omega) (by omega) hx
theorem ok_103_0 : am_ok 103 0 26 = true := by decide +kernel
theorem okm_103 {i : Nat} {x : am_I} (hx : (am_pr 103)[i]? = some x) : am_chk 103 i x = true := by
  have hl : i < 26 := (List.getElem?_eq_some_iff.mp hx).1
  exact am_ok_of ok_103_0 (by omega) (by omega) hx
theorem ok_104_0 : am_ok 104 0 18 = true := by decide +kernel
theorem okm_104 {i : Nat} {x : am_I} (hx : (am_pr 104)[i]? = some x) : am_chk 104 i x = true := by
  have hl : i < 18 := (List.getElem?_eq_some_iff.mp hx).1
  exact am_ok_of ok_104_0 (by omega) (by omega) hx
theorem ok_105_0 : am_ok 105 0 43 = true := by decide +kernel
theorem okm_105 {i : Nat} {x : am_I} (hx : (am_pr 105)[i]? = some x) : am_chk 105 i x = true := by
  have hl : i < 43 := (List.getElem?_eq_some_iff.mp hx).1
  exact am_ok_of ok_105_0 (by omega) (by omega) hx
theorem ok_106_0 : am_ok 106 0 29 = true := by decide +kernel
theorem okm_106 {i : Nat} {x : am_I} (hx : (am_pr 106)[i]? = some x) : am_chk 106 i x = true := by
  have hl : i < 29 := (List.getElem?_eq_some_iff.mp hx).1
  exact am_ok_of ok_106_0 (by omega) (by omega) hx
theorem ok_107_0 : am_ok 107 0 31 = true := by decide +kernel
theorem okm_107 {i : Nat} {x : am_I} (hx : (am_pr 107)[i]? = some x) : am_chk 107 i x = true := by
  have hl : i < 31 := (List.getElem?_eq_some_iff.mp hx).1
  exact am_ok_of ok_107_0 (by omega) (by omega) hx
theorem ok_108_0 : am_ok 108 0 32 = true := by decide +kernel
theorem okm_108 {i : Nat} {x : am_I} (hx : (am_pr 108)[i]? = some x) : am_chk 108 i x = true := by
  have hl : i < 32 := (List.getElem?_eq_some_iff.mp hx).1
  exact am_ok_of ok_108_0 (by omega) (by omega) hx
theorem ok_109_0 : am_ok 109 0 10 = true := by decide +kernel
theorem okm_109 {i : Nat} {x : am_I} (hx : (am_pr 109)[i]? = some x) : am_chk 109 i x = true := by
  have hl : i < 10 := (List.getElem?_eq_some_iff.mp hx).1
  exact am_ok_of ok_109_0 (by omega) (by omega) hx
theorem ok_110_0 : am_ok 110 0 29 = true := by decide +kernel
theorem okm_110 {i : Nat} {x : am_I} (hx : (am_pr 110)[i]? = some x) : am_chk 110 i x = true := by
  have hl : i < 29 := (List.getElem?_eq_some_iff.mp hx).1
  exact am_ok_of ok_110_0 (by omega) (by omega) hx
theorem ok_111_0 : am_ok 111 0 24 = true := by decide +kernel
theorem okm_111 {i : Nat} {x : am_I} (hx : (am_pr 111)[i]? = some x) : am_chk 111 i x = true := by
  have hl : i < 24 := (List.getElem?_eq_some_iff.mp hx).1
  exact am_ok_of ok_111_0 (by omega) (by omega) hx
theorem ok_112_0 : am_ok 112 0 17 = true := by decide +kernel
theorem okm_112 {i : Nat} {x : am_I} (hx : (am_pr 112)[i]? = some x) : am_chk 112 i x = true := by
  have hl : i < 17 := (List.getElem?_eq_some_iff.mp hx).1
  exact am_ok_of ok_112_0 (by omega) (by omega) hx
theorem ok_113_0 : am_ok 113 0 12 = true := by decide +kernel
theorem okm_113 {i : Nat} {x : am_I} (hx : (am_pr 113)[i]? = some x) : am_chk 113 i x = true := by
  have hl : i < 12 := (List.getElem?_eq_some_iff.mp hx).1
  exact am_ok_of ok_113_0 (by omega) (by omega) hx
theorem ok_114_0 : am_ok 114 0 30 = true := by decide +kernel
theorem okm_114 {i : Nat} {x : am_I} (hx : (am_pr 114)[i]? = some x) : am_chk 114 i x = true := by
  have hl : i < 30 := (List.getElem?_eq_some_iff.mp hx).1
  exact am_ok_of ok_114_0 (by omega) (by omega) hx
theorem ok_115_0 : am_ok 115 0 29 = true := by decide +kernel
theorem okm_115 {i : Nat} {x : am_I} (hx : (am_pr 115)[i]? = some x) : am_chk 115 i x = true := by
  have hl : i < 29 := (List.getElem?_eq_some_iff.mp hx).1
  exact am_ok_of ok_115_0 (by omega) (by omega) hx
theorem ok_116_0 : am_ok 116 0 5 = true := by decide +kernel
theorem okm_116 {i : Nat} {x : am_I} (hx : (am_pr 116)[i]? = some x) : am_chk 116 i x = true := by
  have hl : i < 5 := (List.getElem?_eq_some_iff.mp hx).1
  exact am_ok_of ok_116_0 (by omega) (by omega) hx
theorem ok_117_0 : am_ok 117 0 16 = true := by decide +kernel
theorem okm_117 {i : Nat} {x : am_I} (hx : (am_pr 117)[i]? = some x) : am_chk 117 i x = true := by
  have hl : i < 16 := (List.getElem?_eq_some_iff.mp hx).1
  exact am_ok_of ok_117_0 (by omega) (by omega) hx
theorem ok_118_0 : am_ok 118 0 42 = true := by decide +kernel
theorem okm_118 {i : Nat} {x : am_I} (hx : (am_pr 118)[i]? = some x) : am_chk 118 i x = true := by
  have hl : i < 42 := (List.getElem?_eq_some_iff.mp hx).1
  exact am_ok_of ok_118_0 (by omega) (by omega) hx
theorem ok_119_0 : am_ok 119 0 60 = true := by decide +kernel
theorem ok_119_60 : am_ok 119 60 47 = true := by decide +kernel
theorem okm_119 {i : Nat} {x : am_I} (hx : (am_pr 119)[i]? = some x) : am_chk 119 i x = true := by
  have hl : i < 107 := (List.getElem?_eq_some_iff.mp hx).1
  by_cases h60 : i < 60
  · exact am_ok_of ok_119_0 (by omega) (by omega) hx
  exact am_ok_of ok_119_60 (by omega) (by omega) hx
theorem ok_120_0 : am_ok 120 0 12 = true := by decide +kernel
theorem okm_120 {i : Nat} {x : am_I} (hx : (am_pr 120)[i]? = some x) : am_chk 120 i x = true := by
  have hl : i < 12 := (List.getElem?_eq_some_iff.mp hx).1
  exact am_ok_of ok_120_0 (by omega) (by omega) hx
theorem ok_121_0 : am_ok 121 0 60 = true := by decide +kernel
theorem ok_121_60 : am_ok 121 60 60 = true := by decide +kernel
theorem ok_121_120 : am_ok 121 120 27 = true := by decide +kernel
theorem okm_121 {i : Nat} {x : am_I} (hx : (am_pr 121)[i]? = some x) : am_chk 121 i x = true := by
  have hl : i < 147 := (List.getElem?_eq_some_iff.mp hx).1
  by_cases h60 : i < 60
  · exact am_ok_of ok_121_0 (by omega) (by omega) hx
  by_cases h120 : i < 120
  · exact am_ok_of ok_121_60 (by omega) (by omega) hx
  exact am_ok_of ok_121_120 (by omega) (by omega) hx
theorem ok_122_0 : am_ok 122 0 7 = true := by decide +kernel
theorem okm_122 {i : Nat} {x : am_I} (hx : (am_pr 122)[i]? = some x) : am_chk 122 i x = true := by
  have hl : i < 7 := (List.getElem?_eq_some_iff.mp hx).1
  exact am_ok_of ok_122_0 (by omega) (by omega) hx
theorem ok_123_0 : am_ok 123 0 45 = true := by decide +kernel
theorem okm_123 {i : Nat} {x : am_I} (hx : (am_pr 123)[i]? = some x) : am_chk 123 i x = true := by
  have hl : i < 45 := (List.getElem?_eq_some_iff.mp hx).1
  exact am_ok_of ok_123_0 (by omega) (by omega) hx
theorem ok_124_0 : am_ok 124 0 36 = true := by decide +kernel
theorem okm_124 {i : Nat} {x : am_I} (hx : (am_pr 124)[i]? = some x) : am_chk 124 i x = true := by
  have hl : i < 36 := (List.getElem?_eq_some_iff.mp hx).1
  exact am_ok_of ok_124_0 (by omega) (by omega) hx
theorem ok_125_0 : am_ok 125 0 35 = true := by decide +kernel
theorem okm_125 {i : Nat} {x : am_I} (hx : (am_pr 125)[i]? = some x) : am_chk 125 i x = true := by
  have hl : i < 35 := (List.getElem?_eq_some_iff.mp hx).1
  exact am_ok_of ok_125_0 (by omega) (by omega) hx
theorem ok_126_0 : am_ok 126 0 60 = true := by decide +kernel
theorem ok_126_60 : am_ok 126 60 60 = true := by decide +kernel
theorem ok_126_120 : am_ok 126 120 16 = true := by decide +kernel
theorem okm_126 {i : Nat} {x : am_I} (hx : (am_pr 126)[i]? = some x) : am_chk 126 i x = true := by
  have hl : i < 136 := (List.getElem?_eq_some_iff.mp hx).1
  by_cases h60 : i < 60
  · exact am_ok_of ok_126_0 (by omega) (by omega) hx
  by_cases h120 : i < 120
  · exact am_ok_of ok_126_60 (by omega) (by omega) hx
  exact am_ok_of ok_126_120 (by omega) (by omega) hx
theorem ok_127_0 : am_ok 127 0 60 = true := by decide +kernel
theorem okm_127 {i : Nat} {x : am_I} (hx : (am_pr 127)[i]? = some x) : am_chk 127 i x = true := by
  have hl : i < 60 := (List.getElem?_eq_some_iff.mp hx).1
  exact am_ok_of ok_127_0 (by omega) (by omega) hx
theorem ok_128_0 : am_ok 128 0 28 = true := by decide +kernel
theorem okm_128 {i : Nat} {x : am_I} (hx : (am_pr 128)[i]? = some x) : am_chk 128 i x = true := by
  have hl : i < 28 := (List.getElem?_eq_some_iff.mp hx).1
  exact am_ok_of ok_128_0 (by omega) (by omega) hx
theorem ok_129_0 : am_ok 129 0 19 = true := by decide +kernel
theorem okm_129 {i : Nat} {x : am_I} (hx : (am_pr 129)[i]? = some x) : am_chk 129 i x = true := by
  have hl : i < 19 := (List.getElem?_eq_some_iff.mp hx).1
  exact am_ok_of ok_129_0 (by omega) (by omega) hx
theorem ok_130_0 : am_ok 130 0 60 = true := by decide +kernel
theorem ok_130_60 : am_ok 130 60 60 = true := by decide +kernel
theorem ok_130_120 : am_ok 130 120 7 = true := by decide +kernel
theorem okm_130 {i : Nat} {x : am_I} (hx : (am_pr 130)[i]? = some x) : am_chk 130 i x = true := by
  have hl : i < 127 := (List.getElem?_eq_some_iff.mp hx).1
  by_cases h60 : i < 60
  · exact am_ok_of ok_130_0 (by omega) (by omega) hx
  by_cases h120 : i < 120
  · exact am_ok_of ok_130_60 (by omega) (by omega) hx
  exact am_ok_of ok_130_120 (by omega) (by omega) hx
theorem ok_131_0 : am_ok 131 0 12 = true := by decide +kernel
theorem okm_131 {i : Nat} {x : am_I} (hx : (am_pr 131)[i]? = some x) : am_chk 131 i x = true := by
  have hl : i < 12 := (List.getElem?_eq_some_iff.mp hx).1
  exact am_ok_of ok_131_0 (by omega) (by omega) hx
theorem ok_132_0 : am_ok 132 0 12 = true := by decide +kernel
theorem okm_132 {i : Nat} {x : am_I} (hx : (am_pr 132)[i]? = some x) : am_chk 132 i x = true := by
  have hl : i < 12 := (List.getElem?_eq_some_iff.mp hx).1
  exact am_ok_of ok_132_0 (by omega) (by omega) hx
theorem ok_133_0 : am_ok 133 0 16 = true := by decide +kernel
theorem okm_133 {i : Nat} {x : am_I} (hx : (am_pr 133)[i]? = some x) : am_chk 133 i x = true := by
  have hl : i < 16 := (List.getElem?_eq_some_iff.mp hx).1
  exact am_ok_of ok_133_0 (by omega) (by omega) hx
theorem ok_134_0 : am_ok 134 0 16 = true := by decide +kernel
theorem okm_134 {i : Nat} {x : am_I} (hx : (am_pr 134)[i]? = some x) : am_chk 134 i x = true := by
  have hl : i < 16 := (List.getElem?_eq_some_iff.mp hx).1
  exact am_ok_of ok_134_0 (by omega) (by omega) hx
theorem ok_135_0 : am_ok 135 0 32 = true := by decide +kernel
theorem okm_135 {i : Nat} {x : am_I} (hx : (am_pr 135)[i]? = some x) : am_chk 135 i x = true := by
  have hl : i < 32 := (List.getElem?_eq_some_iff.mp hx).1
  exact am_ok_of ok_135_0 (by omega) (by omega) hx
theorem ok_136_0 : am_ok 136 0 45 = true := by decide +kernel
theorem okm_136 {i : Nat} {x : am_I} (hx : (am_pr 136)[i]? = some x) : am_chk 136 i x = true := by
  have hl : i < 45 := (List.getElem?_eq_some_iff.mp hx).1
  exact am_ok_of ok_136_0 (by omega) (by omega) hx
theorem ok_137_0 : am_ok 137 0 7 = true := by decide +kernel
theorem okm_137 {i : Nat} {x : am_I} (hx : (am_pr 137)[i]? = some x) : am_chk 137 i x = true := by
  have hl : i < 7 := (List.getElem?_eq_some_iff.mp hx).1
  exact am_ok_of ok_137_0 (by omega) (by omega) hx
theorem ok_138_0 : am_ok 138 0 13 = true := by decide +kernel
theorem okm_138 {i : Nat} {x : am_I} (hx : (am_pr 138)[i]? = some x) : am_chk 138 i x = true := by
  have hl : i < 13 := (List.getElem?_eq_some_iff.mp hx).1
  exact am_ok_of ok_138_0 (by omega) (by omega) hx
theorem ok_139_0 : am_ok 139 0 30 = true := by decide +kernel
theorem okm_139 {i : Nat} {x : am_I} (hx : (am_pr 139)[i]? = some x) : am_chk 139 i x = true := by
  have hl : i < 30 := (List.getElem?_eq_some_iff.mp hx).1
  exact am_ok_of ok_139_0 (by omega) (by omega) hx
theorem ok_140_0 : am_ok 140 0 10 = true := by decide +kernel
theorem okm_140 {i : Nat} {x : am_I} (hx : (am_pr 140)[i]? = some x) : am_chk 140 i x = true := by
  have hl : i < 10 := (List.getElem?_eq_some_iff.mp hx).1
  exact am_ok_of ok_140_0 (by omega) (by omega) hx
theorem ok_141_0 : am_ok 141 0 18 = true := by decide +kernel
theorem okm_141 {i : Nat} {x : am_I} (hx : (am_pr 141)[i]? = some x) : am_chk 141 i x = true := by
  have hl : i < 18 := (List.getElem?_eq_some_iff.mp hx).1
  exact am_ok_of ok_141_0 (by omega) (by omega) hx
theorem ok_142_0 : am_ok 142 0 16 = true := by decide +kernel
theorem okm_142 {i : Nat} {x : am_I} (hx : (am_pr 142)[i]? = some x) : am_chk 142 i x = true := by
  have hl : i < 16 := (List.getElem?_eq_some_iff.mp hx).1
  exact am_ok_of ok_142_0 (by omega) (by omega) hx
theorem ok_143_0 : am_ok 143 0 60 = true := by decide +kernel
theorem ok_143_60 : am_ok 143 60 4 = true := by decide +kernel
theorem okm_143 {i : Nat} {x : am_I} (hx : (am_pr 143)[i]? = some x) : am_chk 143 i x = true := by
  have hl : i < 64 := (List.getElem?_eq_some_iff.mp hx).1
  by_cases h60 : i < 60
  · exact am_ok_of ok_143_0 (by omega) (by omega) hx
  exact am_ok_of ok_143_60 (by omega) (by omega) hx
theorem ok_144_0 : am_ok 144 0 58 = true := by decide +kernel
theorem okm_144 {i : Nat} {x : am_I} (hx : (am_pr 144)[i]? = some x) : am_chk 144 i x = true := by
  have hl : i < 58 := (List.getElem?_eq_some_iff.mp hx).1
  exact am_ok_of ok_144_0 (by omega) (by omega) hx
theorem ok_145_0 : am_ok 145 0 52 = true := by decide +kernel
theorem okm_145 {i : Nat} {x : am_I} (hx : (am_pr 145)[i]? = some x) : am_chk 145 i x = true := by
  have hl : i < 52 := (List.getElem?_eq_some_iff.mp hx).1
  exact am_ok_of ok_145_0 (by omega) (by omega) hx
theorem ok_146_0 : am_ok 146 0 55 = true := by decide +kernel
theorem okm_146 {i : Nat} {x : am_I} (hx : (am_pr 146)[i]? = some x) : am_chk 146 i x = true := by
  have hl : i < 55 := (List.getElem?_eq_some_iff.mp hx).1
  exact am_ok_of ok_146_0 (by omega) (by omega) hx
theorem ok_147_0 : am_ok 147 0 60 = true := by decide +kernel
theorem ok_147_60 : am_ok 147 60 3 = true := by decide +kernel
theorem okm_147 {i : Nat} {x : am_I} (hx : (am_pr 147)[i]? = some x) : am_chk 147 i x = true := by
  have hl : i < 63 := (List.getElem?_eq_some_iff.mp hx).1
  by_cases h60 : i < 60
  · exact am_ok_of ok_147_0 (by omega) (by omega) hx
  exact am_ok_of ok_147_60 (by omega) (by omega) hx
theorem ok_148_0 : am_ok 148 0 20 = true := by decide +kernel
theorem okm_148 {i : Nat} {x : am_I} (hx : (am_pr 148)[i]? = some x) : am_chk 148 i x = true := by
  have hl : i < 20 := (List.getElem?_eq_some_iff.mp hx).1
  exact am_ok_of ok_148_0 (by omega) (by omega) hx
theorem ok_149_0 : am_ok 149 0 13 = true := by decide +kernel
theorem okm_149 {i : Nat} {x : am_I} (hx : (am_pr 149)[i]? = some x) : am_chk 149 i x = true := by
  have hl : i < 13 := (List.getElem?_eq_some_iff.mp hx).1
  exact am_ok_of ok_149_0 (by omega) (by omega) hx
theorem ok_150_0 : am_ok 150 0 35 = true := by decide +kernel
theorem okm_150 {i : Nat} {x : am_I} (hx : (am_pr 150)[i]? = some x) : am_chk 150 i x = true := by
  have hl : i < 35 := (List.getElem?_eq_some_iff.mp hx).1
  exact am_ok_of ok_150_0 (by omega) (by omega) hx
theorem ok_151_0 : am_ok 151 0 19 = true := by decide +kernel
theorem okm_151 {i : Nat} {x : am_I} (hx : (am_pr 151)[i]? = some x) : am_chk 151 i x = true := by
  have hl : i < 19 := (List.getElem?_eq_some_iff.mp hx).1
  exact am_ok_of ok_151_0 (by omega) (by omega) hx
theorem ok_152_0 : am_ok 152 0 57 = true := by decide +kernel
theorem okm_152 {i : Nat} {x : am_I} (hx : (am_pr 152)[i]? = some x) : am_chk 152 i x = true := by
  have hl : i < 57 := (List.getElem?_eq_some_iff.mp hx).1
  exact am_ok_of ok_152_0 (by omega) (by omega) hx
theorem ok_153_0 : am_ok 153 0 47 = true := by decide +kernel
theorem okm_153 {i : Nat} {x : am_I} (hx : (am_pr 153)[i]? = some x) : am_chk 153 i x = true := by
  have hl : i < 47 := (List.getElem?_eq_some_iff.mp hx).1
  exact am_ok_of ok_153_0 (by omega) (by omega) hx
theorem ok_154_0 : am_ok 154 0 30 = true := by decide +kernel
theorem okm_154 {i : Nat} {x : am_I} (hx : (am_pr 154)[i]? = some x) : am_chk 154 i x = true := by
  have hl : i < 30 := (List.getElem?_eq_some_iff.mp hx).1
  exact am_ok_of ok_154_0 (by omega) (by omega) hx
theorem ok_155_0 : am_ok 155 0 56 = true := by decide +kernel
theorem okm_155 {i : Nat} {x : am_I} (hx : (am_pr 155)[i]? = some x) : am_chk 155 i x = true := by
  have hl : i < 56 := (List.getElem?_eq_some_iff.mp hx).1
  exact am_ok_of ok_155_0 (by omega) (by omega) hx
theorem ok_156_0 : am_ok 156 0 21 = true := by decide +kernel
theorem okm_156 {i : Nat} {x : am_I} (hx : (am_pr 156)[i]? = some x) : am_chk 156 i x = true := by
  have hl : i < 21 := (List.getElem?_eq_some_iff.mp hx).1
  exact am_ok_of ok_156_0 (by omega) (by omega) hx
theorem ok_157_0 : am_ok 157 0 46 = true := by decide +kernel
theorem okm_157 {i : Nat} {x : am_I} (hx : (am_pr 157)[i]? = some x) : am_chk 157 i x = true := by
  have hl : i < 46 := (List.getElem?_eq_some_iff.mp hx).1
  exact am_ok_of ok_157_0 (by omega) (by omega) hx
theorem ok_158_0 : am_ok 158 0 19 = true := by decide +kernel
theorem okm_158 {i : Nat} {x : am_I} (hx : (am_pr 158)[i]? = some x) : am_chk 158 i x = true := by
  have hl : i < 19 := (List.getElem?_eq_some_iff.mp hx).1
  exact am_ok_of ok_158_0 (by omega) (by omega) hx
theorem ok_159_0 : am_ok 159 0 15 = true := by decide +kernel
theorem okm_159 {i : Nat} {x : am_I} (hx : (am_pr 159)[i]? = some x) : am_chk 159 i x = true := by
  have hl : i < 15 := (List.getElem?_eq_some_iff.mp hx).1
  exact am_ok_of ok_159_0 (by omega) (by omega) hx
theorem ok_160_0 : am_ok 160 0 43 = true := by decide +kernel
theorem okm_160 {i : Nat} {x : am_I} (hx : (am_pr 160)[i]? = some x) : am_chk 160 i x = true := by
  have hl : i < 43 := (List.getElem?_eq_some_iff.mp hx).1
  exact am_ok_of ok_160_0 (by omega) (by omega) hx
theorem ok_161_0 : am_ok 161 0 60 = true := by decide +kernel
theorem ok_161_60 : am_ok 161 60 60 = true := by decide +kernel
theorem ok_161_120 : am_ok 161 120 20 = true := by decide +kernel
theorem okm_161 {i : Nat} {x : am_I} (hx : (am_pr 161)[i]? = some x) : am_chk 161 i x = true := by
  have hl : i < 140 := (List.getElem?_eq_some_iff.mp hx).1
  by_cases h60 : i < 60
  · exact am_ok_of ok_161_0 (by omega) (by omega) hx
  by_cases h120 : i < 120
  · exact am_ok_of ok_161_60 (by omega) (by omega) hx
  exact am_ok_of ok_161_120 (by omega) (by omega) hx
end
section
theorem ok_162_0 : am_ok 162 0 39 = true := by decide +kernel
theorem okm_162 {i : Nat} {x : am_I} (hx : (am_pr 162)[i]? = some x) : am_chk 162 i x = true := by
  have hl : i < 39 := (List.getElem?_eq_some_iff.mp hx).1
  exact am_ok_of ok_162_0 (by omega) (by omega) hx
theorem ok_163_0 : am_ok 163 0 4 = true := by decide +kernel
theorem okm_163 {i : Nat} {x : am_I} (hx : (am_pr 163)[i]? = some x) : am_chk 163 i x = true := by
  have hl : i < 4 := (List.getElem?_eq_some_iff.mp hx).1
  exact am_ok_of ok_163_0 (by omega) (by omega) hx
theorem ok_164_0 : am_ok 164 0 60 = true := by decide +kernel
theorem ok_164_60 : am_ok 164 60 2 = true := by decide +kernel
theorem okm_164 {i : Nat} {x : am_I} (hx : (am_pr 164)[i]? = some x) : am_chk 164 i x = true := by
  have hl : i < 62 := (List.getElem?_eq_some_iff.mp hx).1
  by_cases h60 : i < 60
  · exact am_ok_of ok_164_0 (by omega) (by omega) hx
  exact am_ok_of ok_164_60 (by omega) (by omega) hx
theorem ok_165_0 : am_ok 165 0 43 = true := by decide +kernel
theorem okm_165 {i : Nat} {x : am_I} (hx : (am_pr 165)[i]? = some x) : am_chk 165 i x = true := by
  have hl : i < 43 := (List.getElem?_eq_some_iff.mp hx).1
  exact am_ok_of ok_165_0 (by omega) (by omega) hx
theorem ok_166_0 : am_ok 166 0 41 = true := by decide +kernel
theorem okm_166 {i : Nat} {x : am_I} (hx : (am_pr 166)[i]? = some x) : am_chk 166 i x = true := by
  have hl : i < 41 := (List.getElem?_eq_some_iff.mp hx).1
  exact am_ok_of ok_166_0 (by omega) (by omega) hx
theorem ok_167_0 : am_ok 167 0 20 = true := by decide +kernel
theorem okm_167 {i : Nat} {x : am_I} (hx : (am_pr 167)[i]? = some x) : am_chk 167 i x = true := by
  have hl : i < 20 := (List.getElem?_eq_some_iff.mp hx).1
  exact am_ok_of ok_167_0 (by omega) (by omega) hx
theorem ok_168_0 : am_ok 168 0 21 = true := by decide +kernel
theorem okm_168 {i : Nat} {x : am_I} (hx : (am_pr 168)[i]? = some x) : am_chk 168 i x = true := by
  have hl : i < 21 := (List.getElem?_eq_some_iff.mp hx).1
  exact am_ok_of ok_168_0 (by omega) (by omega) hx
theorem ok_169_0 : am_ok 169 0 30 = true := by decide +kernel
theorem okm_169 {i : Nat} {x : am_I} (hx : (am_pr 169)[i]? = some x) : am_chk 169 i x = true := by
  have hl : i < 30 := (List.getElem?_eq_some_iff.mp hx).1
  exact am_ok_of ok_169_0 (by omega) (by omega) hx
theorem ok_170_0 : am_ok 170 0 47 = true := by decide +kernel
theorem okm_170 {i : Nat} {x : am_I} (hx : (am_pr 170)[i]? = some x) : am_chk 170 i x = true := by
  have hl : i < 47 := (List.getElem?_eq_some_iff.mp hx).1
  exact am_ok_of ok_170_0 (by omega) (by omega) hx
theorem ok_171_0 : am_ok 171 0 60 = true := by decide +kernel
theorem ok_171_60 : am_ok 171 60 30 = true := by decide +kernel
theorem okm_171 {i : Nat} {x : am_I} (hx : (am_pr 171)[i]? = some x) : am_chk 171 i x = true := by
  have hl : i < 90 := (List.getElem?_eq_some_iff.mp hx).1
  by_cases h60 : i < 60
  · exact am_ok_of ok_171_0 (by omega) (by omega) hx
  exact am_ok_of ok_171_60 (by omega) (by omega) hx
theorem ok_172_0 : am_ok 172 0 23 = true := by decide +kernel
theorem okm_172 {i : Nat} {x : am_I} (hx : (am_pr 172)[i]? = some x) : am_chk 172 i x = true := by
  have hl : i < 23 := (List.getElem?_eq_some_iff.mp hx).1
  exact am_ok_of ok_172_0 (by omega) (by omega) hx
theorem ok_173_0 : am_ok 173 0 39 = true := by decide +kernel
theorem okm_173 {i : Nat} {x : am_I} (hx : (am_pr 173)[i]? = some x) : am_chk 173 i x = true := by
  have hl : i < 39 := (List.getElem?_eq_some_iff.mp hx).1
  exact am_ok_of ok_173_0 (by omega) (by omega) hx
theorem ok_174_0 : am_ok 174 0 17 = true := by decide +kernel
theorem okm_174 {i : Nat} {x : am_I} (hx : (am_pr 174)[i]? = some x) : am_chk 174 i x = true := by
  have hl : i < 17 := (List.getElem?_eq_some_iff.mp hx).1
  exact am_ok_of ok_174_0 (by omega) (by omega) hx
theorem ok_175_0 : am_ok 175 0 20 = true := by decide +kernel
theorem okm_175 {i : Nat} {x : am_I} (hx : (am_pr 175)[i]? = some x) : am_chk 175 i x = true := by
  have hl : i < 20 := (List.getElem?_eq_some_iff.mp hx).1
  exact am_ok_of ok_175_0 (by omega) (by omega) hx
theorem ok_176_0 : am_ok 176 0 22 = true := by decide +kernel
theorem okm_176 {i : Nat} {x : am_I} (hx : (am_pr 176)[i]? = some x) : am_chk 176 i x = true := by
  have hl : i < 22 := (List.getElem?_eq_some_iff.mp hx).1
  exact am_ok_of ok_176_0 (by omega) (by omega) hx
theorem ok_177_0 : am_ok 177 0 60 = true := by decide +kernel
theorem ok_177_60 : am_ok 177 60 15 = true := by decide +kernel
theorem okm_177 {i : Nat} {x : am_I} (hx : (am_pr 177)[i]? = some x) : am_chk 177 i x = true := by
  have hl : i < 75 := (List.getElem?_eq_some_iff.mp hx).1
  by_cases h60 : i < 60
  · exact am_ok_of ok_177_0 (by omega) (by omega) hx
  exact am_ok_of ok_177_60 (by omega) (by omega) hx
theorem ok_178_0 : am_ok 178 0 16 = true := by decide +kernel
theorem okm_178 {i : Nat} {x : am_I} (hx : (am_pr 178)[i]? = some x) : am_chk 178 i x = true := by
  have hl : i < 16 := (List.getElem?_eq_some_iff.mp hx).1
  exact am_ok_of ok_178_0 (by omega) (by omega) hx
theorem ok_179_0 : am_ok 179 0 23 = true := by decide +kernel
theorem okm_179 {i : Nat} {x : am_I} (hx : (am_pr 179)[i]? = some x) : am_chk 179 i x = true := by
  have hl : i < 23 := (List.getElem?_eq_some_iff.mp hx).1
  exact am_ok_of ok_179_0 (by omega) (by omega) hx
theorem ok_180_0 : am_ok 180 0 44 = true := by decide +kernel
theorem okm_180 {i : Nat} {x : am_I} (hx : (am_pr 180)[i]? = some x) : am_chk 180 i x = true := by
  have hl : i < 44 := (List.getElem?_eq_some_iff.mp hx).1
  exact am_ok_of ok_180_0 (by omega) (by omega) hx
theorem ok_181_0 : am_ok 181 0 49 = true := by decide +kernel
theorem okm_181 {i : Nat} {x : am_I} (hx : (am_pr 181)[i]? = some x) : am_chk 181 i x = true := by
  have hl : i < 49 := (List.getElem?_eq_some_iff.mp hx).1
  exact am_ok_of ok_181_0 (by omega) (by omega) hx
theorem ok_182_0 : am_ok 182 0 28 = true := by decide +kernel
theorem okm_182 {i : Nat} {x : am_I} (hx : (am_pr 182)[i]? = some x) : am_chk 182 i x = true := by
  have hl : i < 28 := (List.getElem?_eq_some_iff.mp hx).1
  exact am_ok_of ok_182_0 (by omega) (by omega) hx
theorem ok_183_0 : am_ok 183 0 49 = true := by decide +kernel
theorem okm_183 {i : Nat} {x : am_I} (hx : (am_pr 183)[i]? = some x) : am_chk 183 i x = true := by
  have hl : i < 49 := (List.getElem?_eq_some_iff.mp hx).1
  exact am_ok_of ok_183_0 (by omega) (by omega) hx
theorem ok_184_0 : am_ok 184 0 25 = true := by decide +kernel
theorem okm_184 {i : Nat} {x : am_I} (hx : (am_pr 184)[i]? = some x) : am_chk 184 i x = true := by
  have hl : i < 25 := (List.getElem?_eq_some_iff.mp hx).1
  exact am_ok_of ok_184_0 (by omega) (by omega) hx
theorem ok_185_0 : am_ok 185 0 32 = true := by decide +kernel
theorem okm_185 {i : Nat} {x : am_I} (hx : (am_pr 185)[i]? = some x) : am_chk 185 i x = true := by
  have hl : i < 32 := (List.getElem?_eq_some_iff.mp hx).1
  exact am_ok_of ok_185_0 (by omega) (by omega) hx
theorem ok_186_0 : am_ok 186 0 33 = true := by decide +kernel
theorem okm_186 {i : Nat} {x : am_I} (hx : (am_pr 186)[i]? = some x) : am_chk 186 i x = true := by
  have hl : i < 33 := (List.getElem?_eq_some_iff.mp hx).1
  exact am_ok_of ok_186_0 (by omega) (by omega) hx
theorem ok_187_0 : am_ok 187 0 40 = true := by decide +kernel
theorem okm_187 {i : Nat} {x : am_I} (hx : (am_pr 187)[i]? = some x) : am_chk 187 i x = true := by
  have hl : i < 40 := (List.getElem?_eq_some_iff.mp hx).1
  exact am_ok_of ok_187_0 (by omega) (by omega) hx
theorem ok_188_0 : am_ok 188 0 54 = true := by decide +kernel
theorem okm_188 {i : Nat} {x : am_I} (hx : (am_pr 188)[i]? = some x) : am_chk 188 i x = true := by
  have hl : i < 54 := (List.getElem?_eq_some_iff.mp hx).1
  exact am_ok_of ok_188_0 (by omega) (by omega) hx
theorem ok_189_0 : am_ok 189 0 60 = true := by decide +kernel
theorem ok_189_60 : am_ok 189 60 40 = true := by decide +kernel
theorem okm_189 {i : Nat} {x : am_I} (hx : (am_pr 189)[i]? = some x) : am_chk 189 i x = true := by
  have hl : i < 100 := (List.getElem?_eq_some_iff.mp hx).1
  by_cases h60 : i < 60
  · exact am_ok_of ok_189_0 (by omega) (by omega) hx
  exact am_ok_of ok_189_60 (by omega) (by omega) hx
theorem ok_190_0 : am_ok 190 0 53 = true := by decide +kernel
theorem okm_190 {i : Nat} {x : am_I} (hx : (am_pr 190)[i]? = some x) : am_chk 190 i x = true := by
  have hl : i < 53 := (List.getElem?_eq_some_iff.mp hx).1
  exact am_ok_of ok_190_0 (by omega) (by omega) hx
theorem ok_191_0 : am_ok 191 0 60 = true := by decide +kernel
theorem ok_191_60 : am_ok 191 60 17 = true := by decide +kernel
theorem okm_191 {i : Nat} {x : am_I} (hx : (am_pr 191)[i]? = some x) : am_chk 191 i x = true := by
  have hl : i < 77 := (List.getElem?_eq_some_iff.mp hx).1
  by_cases h60 : i < 60
  · exact am_ok_of ok_191_0 (by omega) (by omega) hx
  exact am_ok_of ok_191_60 (by omega) (by omega) hx
theorem ok_192_0 : am_ok 192 0 60 = true := by decide +kernel
theorem ok_192_60 : am_ok 192 60 1 = true := by decide +kernel
theorem okm_192 {i : Nat} {x : am_I} (hx : (am_pr 192)[i]? = some x) : am_chk 192 i x = true := by
  have hl : i < 61 := (List.getElem?_eq_some_iff.mp hx).1
  by_cases h60 : i < 60
  · exact am_ok_of ok_192_0 (by omega) (by omega) hx
  exact am_ok_of ok_192_60 (by omega) (by omega) hx
theorem ok_193_0 : am_ok 193 0 52 = true := by decide +kernel
theorem okm_193 {i : Nat} {x : am_I} (hx : (am_pr 193)[i]? = some x) : am_chk 193 i x = true := by
  have hl : i < 52 := (List.getElem?_eq_some_iff.mp hx).1
  exact am_ok_of ok_193_0 (by omega) (by omega) hx
theorem ok_194_0 : am_ok 194 0 46 = true := by decide +kernel
theorem okm_194 {i : Nat} {x : am_I} (hx : (am_pr 194)[i]? = some x) : am_chk 194 i x = true := by
  have hl : i < 46 := (List.getElem?_eq_some_iff.mp hx).1
  exact am_ok_of ok_194_0 (by omega) (by omega) hx
theorem ok_195_0 : am_ok 195 0 32 = true := by decide +kernel
theorem okm_195 {i : Nat} {x : am_I} (hx : (am_pr 195)[i]? = some x) : am_chk 195 i x = true := by
  have hl : i < 32 := (List.getElem?_eq_some_iff.mp hx).1
  exact am_ok_of ok_195_0 (by omega) (by omega) hx
theorem ok_196_0 : am_ok 196 0 58 = true := by decide +kernel
theorem okm_196 {i : Nat} {x : am_I} (hx : (am_pr 196)[i]? = some x) : am_chk 196 i x = true := by
  have hl : i < 58 := (List.getElem?_eq_some_iff.mp hx).1
  exact am_ok_of ok_196_0 (by omega) (by omega) hx
theorem ok_197_0 : am_ok 197 0 41 = true := by decide +kernel
theorem okm_197 {i : Nat} {x : am_I} (hx : (am_pr 197)[i]? = some x) : am_chk 197 i x = true := by
  have hl : i < 41 := (List.getElem?_eq_some_iff.mp hx).1
  exact am_ok_of ok_197_0 (by omega) (by omega) hx
theorem ok_198_0 : am_ok 198 0 60 = true := by decide +kernel
theorem ok_198_60 : am_ok 198 60 9 = true := by decide +kernel
theorem okm_198 {i : Nat} {x : am_I} (hx : (am_pr 198)[i]? = some x) : am_chk 198 i x = true := by
  have hl : i < 69 := (List.getElem?_eq_some_iff.mp hx).1
  by_cases h60 : i < 60
  · exact am_ok_of ok_198_0 (by omega) (by omega) hx
  exact am_ok_of ok_198_60 (by omega) (by omega) hx
theorem ok_199_0 : am_ok 199 0 25 = true := by decide +kernel
theorem okm_199 {i : Nat} {x : am_I} (hx : (am_pr 199)[i]? = some x) : am_chk 199 i x = true := by
  have hl : i < 25 := (List.getElem?_eq_some_iff.mp hx).1
  exact am_ok_of ok_199_0 (by omega) (by omega) hx
theorem ok_200_0 : am_ok 200 0 21 = true := by decide +kernel
theorem okm_200 {i : Nat} {x : am_I} (hx : (am_pr 200)[i]? = some x) : am_chk 200 i x = true := by
  have hl : i < 21 := (List.getElem?_eq_some_iff.mp hx).1
  exact am_ok_of ok_200_0 (by omega) (by omega) hx
theorem ok_201_0 : am_ok 201 0 10 = true := by decide +kernel
theorem okm_201 {i : Nat} {x : am_I} (hx : (am_pr 201)[i]? = some x) : am_chk 201 i x = true := by
  have hl : i < 10 := (List.getElem?_eq_some_iff.mp hx).1
  exact am_ok_of ok_201_0 (by omega) (by omega) hx
theorem ok_202_0 : am_ok 202 0 10 = true := by decide +kernel
theorem okm_202 {i : Nat} {x : am_I} (hx : (am_pr 202)[i]? = some x) : am_chk 202 i x = true := by
  have hl : i < 10 := (List.getElem?_eq_some_iff.mp hx).1
  exact am_ok_of ok_202_0 (by omega) (by omega) hx
theorem ok_203_0 : am_ok 203 0 12 = true := by decide +kernel
theorem okm_203 {i : Nat} {x : am_I} (hx : (am_pr 203)[i]? = some x) : am_chk 203 i x = true := by
  have hl : i < 12 := (List.getElem?_eq_some_iff.mp hx).1
  exact am_ok_of ok_203_0 (by omega) (by omega) hx
theorem ok_204_0 : am_ok 204 0 12 = true := by decide +kernel
theorem okm_204 {i : Nat} {x : am_I} (hx : (am_pr 204)[i]? = some x) : am_chk 204 i x = true := by
  have hl : i < 12 := (List.getElem?_eq_some_iff.mp hx).1
  exact am_ok_of ok_204_0 (by omega) (by omega) hx
theorem ok_205_0 : am_ok 205 0 12 = true := by decide +kernel
theorem okm_205 {i : Nat} {x : am_I} (hx : (am_pr 205)[i]? = some x) : am_chk 205 i x = true := by
  have hl : i < 12 := (List.getElem?_eq_some_iff.mp hx).1
  exact am_ok_of ok_205_0 (by omega) (by omega) hx
theorem ok_206_0 : am_ok 206 0 18 = true := by decide +kernel
theorem okm_206 {i : Nat} {x : am_I} (hx : (am_pr 206)[i]? = some x) : am_chk 206 i x = true := by
  have hl : i < 18 := (List.getElem?_eq_some_iff.mp hx).1
  exact am_ok_of ok_206_0 (by omega) (by omega) hx
theorem ok_207_0 : am_ok 207 0 20 = true := by decide +kernel
theorem okm_207 {i : Nat} {x : am_I} (hx : (am_pr 207)[i]? = some x) : am_chk 207 i x = true := by
  have hl : i < 20 := (List.getElem?_eq_some_iff.mp hx).1
  exact am_ok_of ok_207_0 (by omega) (by omega) hx
theorem ok_208_0 : am_ok 208 0 11 = true := by decide +kernel
theorem okm_208 {i : Nat} {x : am_I} (hx : (am_pr 208)[i]? = some x) : am_chk 208 i x = true := by
  have hl : i < 11 := (List.getElem?_eq_some_iff.mp hx).1
  exact am_ok_of ok_208_0 (by omega) (by omega) hx
theorem ok_209_0 : am_ok 209 0 49 = true := by decide +kernel
theorem okm_209 {i : Nat} {x : am_I} (hx : (am_pr 209)[i]? = some x) : am_chk 209 i x = true := by
  have hl : i < 49 := (List.getElem?_eq_some_iff.mp hx).1
  exact am_ok_of ok_209_0 (by omega) (by omega) hx
theorem ok_210_0 : am_ok 210 0 60 = true := by decide +kernel
theorem ok_210_60 : am_ok 210 60 13 = true := by decide +kernel
theorem okm_210 {i : Nat} {x : am_I} (hx : (am_pr 210)[i]? = some x) : am_chk 210 i x = true := by
  have hl : i < 73 := (List.getElem?_eq_some_iff.mp hx).1
  by_cases h60 : i < 60
  · exact am_ok_of ok_210_0 (by omega) (by omega) hx
  exact am_ok_of ok_210_60 (by omega) (by omega) hx
theorem ok_211_0 : am_ok 211 0 5 = true := by decide +kernel
theorem okm_211 {i : Nat} {x : am_I} (hx : (am_pr 211)[i]? = some x) : am_chk 211 i x = true := by
  have hl : i < 5 := (List.getElem?_eq_some_iff.mp hx).1
  exact am_ok_of ok_211_0 (by omega) (by omega) hx
theorem ok_212_0 : am_ok 212 0 5 = true := by decide +kernel
theorem okm_212 {i : Nat} {x : am_I} (hx : (am_pr 212)[i]? = some x) : am_chk 212 i x = true := by
  have hl : i < 5 := (List.getElem?_eq_some_iff.mp hx).1
  exact am_ok_of ok_212_0 (by omega) (by omega) hx
theorem ok_213_0 : am_ok 213 0 35 = true := by decide +kernel
theorem okm_213 {i : Nat} {x : am_I} (hx : (am_pr 213)[i]? = some x) : am_chk 213 i x = true := by
  have hl : i < 35 := (List.getElem?_eq_some_iff.mp hx).1
  exact am_ok_of ok_213_0 (by omega) (by omega) hx
theorem ok_214_0 : am_ok 214 0 60 = true := by decide +kernel
theorem ok_214_60 : am_ok 214 60 3 = true := by decide +kernel
theorem okm_214 {i : Nat} {x : am_I} (hx : (am_pr 214)[i]? = some x) : am_chk 214 i x = true := by
  have hl : i < 63 := (List.getElem?_eq_some_iff.mp hx).1
  by_cases h60 : i < 60
  · exact am_ok_of ok_214_0 (by omega) (by omega) hx
  exact am_ok_of ok_214_60 (by omega) (by omega) hx
theorem ok_215_0 : am_ok 215 0 60 = true := by decide +kernel
theorem ok_215_60 : am_ok 215 60 28 = true := by decide +kernel
theorem okm_215 {i : Nat} {x : am_I} (hx : (am_pr 215)[i]? = some x) : am_chk 215 i x = true := by
  have hl : i < 88 := (List.getElem?_eq_some_iff.mp hx).1
  by_cases h60 : i < 60
  · exact am_ok_of ok_215_0 (by omega) (by omega) hx
  exact am_ok_of ok_215_60 (by omega) (by omega) hx
theorem ok_216_0 : am_ok 216 0 19 = true := by decide +kernel
theorem okm_216 {i : Nat} {x : am_I} (hx : (am_pr 216)[i]? = some x) : am_chk 216 i x = true := by
  have hl : i < 19 := (List.getElem?_eq_some_iff.mp hx).1
  exact am_ok_of ok_216_0 (by omega) (by omega) hx
theorem ok_217_0 : am_ok 217 0 19 = true := by decide +kernel
theorem okm_217 {i : Nat} {x : am_I} (hx : (am_pr 217)[i]? = some x) : am_chk 217 i x = true := by
  have hl : i < 19 := (List.getElem?_eq_some_iff.mp hx).1
  exact am_ok_of ok_217_0 (by omega) (by omega) hx
theorem ok_218_0 : am_ok 218 0 12 = true := by decide +kernel
theorem okm_218 {i : Nat} {x : am_I} (hx : (am_pr 218)[i]? = some x) : am_chk 218 i x = true := by
  have hl : i < 12 := (List.getElem?_eq_some_iff.mp hx).1
  exact am_ok_of ok_218_0 (by omega) (by omega) hx
theorem ok_219_0 : am_ok 219 0 59 = true := by decide +kernel
theorem okm_219 {i : Nat} {x : am_I} (hx : (am_pr 219)[i]? = some x) : am_chk 219 i x = true := by
  have hl : i < 59 := (List.getElem?_eq_some_iff.mp hx).1
  exact am_ok_of ok_219_0 (by omega) (by omega) hx
theorem ok_220_0 : am_ok 220 0 22 = true := by decide +kernel
theorem okm_220 {i : Nat} {x : am_I} (hx : (am_pr 220)[i]? = some x) : am_chk 220 i x = true := by
  have hl : i < 22 := (List.getElem?_eq_some_iff.mp hx).1
  exact am_ok_of ok_220_0 (by omega) (by omega) hx
theorem ok_221_0 : am_ok 221 0 60 = true := by decide +kernel
theorem ok_221_60 : am_ok 221 60 6 = true := by decide +kernel
theorem okm_221 {i : Nat} {x : am_I} (hx : (am_pr 221)[i]? = some x) : am_chk 221 i x = true := by
  have hl : i < 66 := (List.getElem?_eq_some_iff.mp hx).1
  by_cases h60 : i < 60
  · exact am_ok_of ok_221_0 (by omega) (by omega) hx
  exact am_ok_of ok_221_60 (by omega) (by omega) hx
theorem ok_222_0 : am_ok 222 0 15 = true := by decide +kernel
theorem okm_222 {i : Nat} {x : am_I} (hx : (am_pr 222)[i]? = some x) : am_chk 222 i x = true := by
  have hl : i < 15 := (List.getElem?_eq_some_iff.mp hx).1
  exact am_ok_of ok_222_0 (by omega) (by omega) hx
theorem ok_223_0 : am_ok 223 0 16 = true := by decide +kernel
theorem okm_223 {i : Nat} {x : am_I} (hx : (am_pr 223)[i]? = some x) : am_chk 223 i x = true := by
  have hl : i < 16 := (List.getElem?_eq_some_iff.mp hx).1
  exact am_ok_of ok_223_0 (by omega) (by omega) hx
theorem ok_224_0 : am_ok 224 0 22 = true := by decide +kernel
theorem okm_224 {i : Nat} {x : am_I} (hx : (am_pr 224)[i]? = some x) : am_chk 224 i x = true := by
  have hl : i < 22 := (List.getElem?_eq_some_iff.mp hx).1
  exact am_ok_of ok_224_0 (by omega) (by omega) hx
theorem ok_225_0 : am_ok 225 0 43 = true := by decide +kernel
theorem okm_225 {i : Nat} {x : am_I} (hx : (am_pr 225)[i]? = some x) : am_chk 225 i x = true := by
  have hl : i < 43 := (List.getElem?_eq_some_iff.mp hx).1
  exact am_ok_of ok_225_0 (by omega) (by omega) hx
theorem ok_226_0 : am_ok 226 0 26 = true := by decide +kernel
theorem okm_226 {i : Nat} {x : am_I} (hx : (am_pr 226)[i]? = some x) : am_chk 226 i x = true := by
  have hl : i < 26 := (List.getElem?_eq_some_iff.mp hx).1
  exact am_ok_of ok_226_0 (by omega) (by omega) hx
theorem ok_227_0 : am_ok 227 0 22 = true := by decide +kernel
theorem okm_227 {i : Nat} {x : am_I} (hx : (am_pr 227)[i]? = some x) : am_chk 227 i x = true := by
  have hl : i < 22 := (List.getElem?_eq_some_iff.mp hx).1
  exact am_ok_of ok_227_0 (by omega) (by omega) hx
theorem ok_228_0 : am_ok 228 0 28 = true := by decide +kernel
theorem okm_228 {i : Nat} {x : am_I} (hx : (am_pr 228)[i]? = some x) : am_chk 228 i x = true := by
  have hl : i < 28 := (List.getElem?_eq_some_iff.mp hx).1
  exact am_ok_of ok_228_0 (by omega) (by omega) hx
theorem ok_229_0 : am_ok 229 0 32 = true := by decide +kernel
theorem okm_229 {i : Nat} {x : am_I} (hx : (am_pr 229)[i]? = some x) : am_chk 229 i x = true := by
  have hl : i < 32 := (List.getElem?_eq_some_iff.mp hx).1
  exact am_ok_of ok_229_0 (by omega) (by omega) hx
theorem ok_230_0 : am_ok 230 0 57 = true := by decide +kernel
theorem okm_230 {i : Nat} {x : am_I} (hx : (am_pr 230)[i]? = some x) : am_chk 230 i x = true := by
  have hl : i < 57 := (List.getElem?_eq_some_iff.mp hx).1
  exact am_ok_of ok_230_0 (by omega) (by omega) hx
theorem ok_231_0 : am_ok 231 0 60 = true := by decide +kernel
theorem ok_231_60 : am_ok 231 60 39 = true := by decide +kernel
theorem okm_231 {i : Nat} {x : am_I} (hx : (am_pr 231)[i]? = some x) : am_chk 231 i x = true := by
  have hl : i < 99 := (List.getElem?_eq_some_iff.mp hx).1
  by_cases h60 : i < 60
  · exact am_ok_of ok_231_0 (by omega) (by omega) hx
  exact am_ok_of ok_231_60 (by omega) (by omega) hx
theorem ok_232_0 : am_ok 232 0 60 = true := by decide +kernel
theorem ok_232_60 : am_ok 232 60 60 = true := by decide +kernel
theorem ok_232_120 : am_ok 232 120 60 = true := by decide +kernel
theorem ok_232_180 : am_ok 232 180 60 = true := by decide +kernel
theorem ok_232_240 : am_ok 232 240 60 = true := by decide +kernel
theorem ok_232_300 : am_ok 232 300 60 = true := by decide +kernel
theorem ok_232_360 : am_ok 232 360 60 = true := by decide +kernel
theorem ok_232_420 : am_ok 232 420 60 = true := by decide +kernel
theorem ok_232_480 : am_ok 232 480 60 = true := by decide +kernel
theorem ok_232_540 : am_ok 232 540 60 = true := by decide +kernel
theorem ok_232_600 : am_ok 232 600 60 = true := by decide +kernel
theorem ok_232_660 : am_ok 232 660 60 = true := by decide +kernel
theorem ok_232_720 : am_ok 232 720 60 = true := by decide +kernel
theorem ok_232_780 : am_ok 232 780 60 = true := by decide +kernel
theorem ok_232_840 : am_ok 232 840 55 = true := by decide +kernel
end
section
set_option maxRecDepth 100000 in
theorem okm_232 {i : Nat} {x : am_I} (hx : (am_pr 232)[i]? = some x) : am_chk 232 i x = true := by
  have hl : i < 895 := (List.getElem?_eq_some_iff.mp hx).1
  by_cases h60 : i < 60
  · exact am_ok_of ok_232_0 (by omega) (by omega) hx
  by_cases h120 : i < 120
  · exact am_ok_of ok_232_60 (by omega) (by omega) hx
  by_cases h180 : i < 180
  · exact am_ok_of ok_232_120 (by omega) (by omega) hx
  by_cases h240 : i < 240
  · exact am_ok_of ok_232_180 (by omega) (by omega) hx
  by_cases h300 : i < 300
  · exact am_ok_of ok_232_240 (by omega) (by omega) hx
  by_cases h360 : i < 360
  · exact am_ok_of ok_232_300 (by omega) (by omega) hx
  by_cases h420 : i < 420
  · exact am_ok_of ok_232_360 (by omega) (by omega) hx
  by_cases h480 : i < 480
  · exact am_ok_of ok_232_420 (by omega) (by omega) hx
  by_cases h540 : i < 540
  · exact am_ok_of ok_232_480 (by omega) (by omega) hx
  by_cases h600 : i < 600
  · exact am_ok_of ok_232_540 (by omega) (by omega) hx
  by_cases h660 : i < 660
  · exact am_ok_of ok_232_600 (by omega) (by omega) hx
  by_cases h720 : i < 720
  · exact am_ok_of ok_232_660 (by omega) (by omega) hx
  by_cases h780 : i < 780
  · exact am_ok_of ok_232_720 (by omega) (by omega) hx
  by_cases h840 : i < 840
  · exact am_ok_of ok_232_780 (by omega) (by omega) hx
  exact am_ok_of ok_232_840 (by omega) (by omega) hx
theorem am_all : am_All := by
  intro m i a h
  match m, h with
  | 0, h => exact okm_0 h
  | 1, h => exact okm_1 h
  | 2, h => exact okm_2 h
  | 3, h => exact okm_3 h
  | 4, h => exact okm_4 h
  | 5, h => exact okm_5 h
  | 6, h => exact okm_6 h
  | 7, h => exact okm_7 h
  | 8, h => exact okm_8 h
  | 9, h => exact okm_9 h
  | 10, h => exact okm_10 h
  | 11, h => exact okm_11 h
  | 12, h => exact okm_12 h
  | 13, h => exact okm_13 h
  | 14, h => exact okm_14 h
  | 15, h => exact okm_15 h
  | 16, h => exact okm_16 h
  | 17, h => exact okm_17 h
  | 18, h => exact okm_18 h
  | 19, h => exact okm_19 h
  | 20, h => exact okm_20 h
  | 21, h => exact okm_21 h
  | 22, h => exact okm_22 h
  | 23, h => exact okm_23 h
  | 24, h => exact okm_24 h
  | 25, h => exact okm_25 h
  | 26, h => exact okm_26 h
  | 27, h => exact okm_27 h
  | 28, h => exact okm_28 h
  | 29, h => exact okm_29 h
  | 30, h => exact okm_30 h
  | 31, h => exact okm_31 h
  | 32, h => exact okm_32 h
  | 33, h => exact okm_33 h
  | 34, h => exact okm_34 h
  | 35, h => exact okm_35 h
  | 36, h => exact okm_36 h
  | 37, h => exact okm_37 h
  | 38, h => exact okm_38 h
  | 39, h => exact okm_39 h
  | 40, h => exact okm_40 h
  | 41, h => exact okm_41 h
  | 42, h => exact okm_42 h
  | 43, h => exact okm_43 h
  | 44, h => exact okm_44 h
  | 45, h => exact okm_45 h
  | 46, h => exact okm_46 h
  | 47, h => exact okm_47 h
  | 48, h => exact okm_48 h
  | 49, h => exact okm_49 h
  | 50, h => exact okm_50 h
  | 51, h => exact okm_51 h
  | 52, h => exact okm_52 h
  | 53, h => exact okm_53 h
  | 54, h => exact okm_54 h
  | 55, h => exact okm_55 h
  | 56, h => exact okm_56 h
  | 57, h => exact okm_57 h
  | 58, h => exact okm_58 h
  | 59, h => exact okm_59 h
  | 60, h => exact okm_60 h
  | 61, h => exact okm_61 h
  | 62, h => exact okm_62 h
  | 63, h => exact okm_63 h
  | 64, h => exact okm_64 h
  | 65, h => exact okm_65 h
  | 66, h => exact okm_66 h
  | 67, h => exact okm_67 h
  | 68, h => exact okm_68 h
  | 69, h => exact okm_69 h
  | 70, h => exact okm_70 h
  | 71, h => exact okm_71 h
  | 72, h => exact okm_72 h
  | 73, h => exact okm_73 h
  | 74, h => exact okm_74 h
  | 75, h => exact okm_75 h
  | 76, h => exact okm_76 h
  | 77, h => exact okm_77 h
  | 78, h => exact okm_78 h
  | 79, h => exact okm_79 h
  | 80, h => exact okm_80 h
  | 81, h => exact okm_81 h
  | 82, h => exact okm_82 h
  | 83, h => exact okm_83 h
  | 84, h => exact okm_84 h
  | 85, h => exact okm_85 h
  | 86, h => exact okm_86 h
  | 87, h => exact okm_87 h
  | 88, h => exact okm_88 h
  | 89, h => exact okm_89 h
  | 90, h => exact okm_90 h
  | 91, h => exact okm_91 h
  | 92, h => exact okm_92 h
  | 93, h => exact okm_93 h
  | 94, h => exact okm_94 h
  | 95, h => exact okm_95 h
  | 96, h => exact okm_96 h
  | 97, h => exact okm_97 h
  | 98, h => exact okm_98 h
  | 99, h => exact okm_99 h
  | 100, h => exact okm_100 h
  | 101, h => exact okm_101 h
  | 102, h => exact okm_102 h
  | 103, h => exact okm_103 h
  | 104, h => exact okm_104 h
  | 105, h => exact okm_105 h
  | 106, h => exact okm_106 h
  | 107, h => exact okm_107 h
  | 108, h => exact okm_108 h
  | 109, h => exact okm_109 h
  | 110, h => exact okm_110 h
  | 111, h => exact okm_111 h
  | 112, h => exact okm_112 h
  | 113, h => exact okm_113 h
  | 114, h => exact okm_114 h
  | 115, h => exact okm_115 h
  | 116, h => exact okm_116 h
  | 117, h => exact okm_117 h
  | 118, h => exact okm_118 h
  | 119, h => exact okm_119 h
  | 120, h => exact okm_120 h
  | 121, h => exact okm_121 h
  | 122, h => exact okm_122 h
  | 123, h => exact okm_123 h
  | 124, h => exact okm_124 h
  | 125, h => exact okm_125 h
  | 126, h => exact okm_126 h
  | 127, h => exact okm_127 h
  | 128, h => exact okm_128 h
  | 129, h => exact okm_129 h
  | 130, h => exact okm_130 h
  | 131, h => exact okm_131 h
  | 132, h => exact okm_132 h
  | 133, h => exact okm_133 h
  | 134, h => exact okm_134 h
  | 135, h => exact okm_135 h
  | 136, h => exact okm_136 h
  | 137, h => exact okm_137 h
  | 138, h => exact okm_138 h
  | 139, h => exact okm_139 h
  | 140, h => exact okm_140 h
  | 141, h => exact okm_141 h
  | 142, h => exact okm_142 h
  | 143, h => exact okm_143 h
  | 144, h => exact okm_144 h
  | 145, h => exact okm_145 h
  | 146, h => exact okm_146 h
  | 147, h => exact okm_147 h
  | 148, h => exact okm_148 h
  | 149, h => exact okm_149 h
  | 150, h => exact okm_150 h
  | 151, h => exact okm_151 h
  | 152, h => exact okm_152 h
  | 153, h => exact okm_153 h
  | 154, h => exact okm_154 h
  | 155, h => exact okm_155 h
  | 156, h => exact okm_156 h
  | 157, h => exact okm_157 h
  | 158, h => exact okm_158 h
  | 159, h => exact okm_159 h
  | 160, h => exact okm_160 h
  | 161, h => exact okm_161 h
  | 162, h => exact okm_162 h
  | 163, h => exact okm_163 h
  | 164, h => exact okm_164 h
  | 165, h => exact okm_165 h
  | 166, h => exact okm_166 h
  | 167, h => exact okm_167 h
  | 168, h => exact okm_168 h
  | 169, h => exact okm_169 h
  | 170, h => exact okm_170 h
  | 171, h => exact okm_171 h
  | 172, h => exact okm_172 h
  | 173, h => exact okm_173 h
  | 174, h => exact okm_174 h
  | 175, h => exact okm_175 h
  | 176, h => exact okm_176 h
  | 177, h => exact okm_177 h
  | 178, h => exact okm_178 h
  | 179, h => exact okm_179 h
  | 180, h => exact okm_180 h
  | 181, h => exact okm_181 h
  | 182, h => exact okm_182 h
  | 183, h => exact okm_183 h
  | 184, h => exact okm_184 h
  | 185, h => exact okm_185 h
  | 186, h => exact okm_186 h
  | 187, h => exact okm_187 h
  | 188, h => exact okm_188 h
  | 189, h => exact okm_189 h
  | 190, h => exact okm_190 h
  | 191, h => exact okm_191 h
  | 192, h => exact okm_192 h
  | 193, h => exact okm_193 h
  | 194, h => exact okm_194 h
  | 195, h => exact okm_195 h
  | 196, h => exact okm_196 h
  | 197, h => exact okm_197 h
  | 198, h => exact okm_198 h
  | 199, h => exact okm_199 h
  | 200, h => exact okm_200 h
  | 201, h => exact okm_201 h
  | 202, h => exact okm_202 h
  | 203, h => exact okm_203 h
  | 204, h => exact okm_204 h
  | 205, h => exact okm_205 h
  | 206, h => exact okm_206 h
  | 207, h => exact okm_207 h
  | 208, h => exact okm_208 h
  | 209, h => exact okm_209 h
  | 210, h => exact okm_210 h
  | 211, h => exact okm_211 h
  | 212, h => exact okm_212 h
  | 213, h => exact okm_213 h
  | 214, h => exact okm_214 h
  | 215, h => exact okm_215 h
  | 216, h => exact okm_216 h
  | 217, h => exact okm_217 h
  | 218, h => exact okm_218 h
  | 219, h => exact okm_219 h
  | 220, h => exact okm_220 h
  | 221, h => exact okm_221 h
  | 222, h => exact okm_222 h
  | 223, h => exact okm_223 h
  | 224, h => exact okm_224 h
  | 225, h => exact okm_225 h
  | 226, h => exact okm_226 h
  | 227, h => exact okm_227 h
  | 228, h => exact okm_228 h
  | 229, h => exact okm_229 h
  | 230, h => exact okm_230 h
  | 231, h => exact okm_231 h
  | 232, h => exact okm_232 h
  | n + 233, h => exact absurd h (by show ¬ (am_PR.getD (n + 233) [])[i]? = some a; rw [List.getD_eq_getElem?_getD, List.getElem?_eq_none (l := am_PR) (i := n + 233) (by rw [show am_PR.length = 233 from rfl]; omega)]; simp)
end
section
theorem am_run_s {n : Nat} : ∀ {m : Nat} {is : List am_I} {L S : List am_V} {st : am_S} {x : am_V × am_S}, am_run n m is L S st = some x → am_run (n + 1) m is L S st = some x := by
  induction n with
  | zero => intro m is L S st x h; cases h
  | succ n ih =>
    intro m is L S st x h
    cases is with
    | nil => cases h
    | cons a is =>
      rw [am_run] at h ⊢
      cases hse : am_se a L S st with
      | none => rw [hse] at h; cases h
      | some r0 =>
        rw [hse] at h
        obtain ⟨k, t, L', S', s'⟩ := r0
        match k, h with
        | 0, h => exact ih h
        | 1, h => exact ih h
        | 2, h =>
          have h : (match am_run n t (am_pr t) (am_en t L') [] s' with
            | some (r1, st1) => am_run n m is L (am_pu r1 S') st1
            | none => none) = some x := h
          show (match am_run (n + 1) t (am_pr t) (am_en t L') [] s' with
            | some (r1, st1) => am_run (n + 1) m is L (am_pu r1 S') st1
            | none => none) = some x
          split at h
          · next r1 st1 h1 =>
            rw [ih h1]
            exact ih h
          · cases h
        | k + 3, h =>
          cases L' with
          | nil => cases h
          | cons v vs => exact h
theorem am_run_a {n : Nat} (k : Nat) {m : Nat} {is : List am_I} {L S : List am_V} {st : am_S} {x : am_V × am_S} (h : am_run n m is L S st = some x) : am_run (n + k) m is L S st = some x := by
  induction k with
  | zero => exact h
  | succ k ih => exact am_run_s ih
/-- from here the machine comes to an end with Q -/
def wp (m : Nat) (is : List am_I) (L S : List am_V) (st : am_S) (Q : am_V → am_S → Prop) : Prop := ∃ (n : Nat) (r : am_V) (s' : am_S), am_run n m is L S st = some (r, s') ∧ Q r s'
section WP
variable {m : Nat} {is : List am_I} {a : am_I} {L S L' S' : List am_V} {st st' : am_S} {Q Q' : am_V → am_S → Prop} {t : Nat}
theorem wp_nx (h1 : am_se a L S st = some (0, t, L', S', st')) : wp m (a :: is) L S st Q ↔ wp m is L' S' st' Q := by
  constructor
  · rintro ⟨n, r, s', h, q⟩
    cases n with
    | zero => cases h
    | succ n =>
      rw [am_run, h1] at h
      exact ⟨n, r, s', h, q⟩
  · rintro ⟨n, r, s', h, q⟩
    exact ⟨n + 1, r, s', by rw [am_run, h1]; exact h, q⟩
theorem wp_jp (h1 : am_se a L S st = some (1, t, L', S', st')) : wp m (a :: is) L S st Q ↔ wp m ((am_pr m).drop t) L' S' st' Q := by
  constructor
  · rintro ⟨n, r, s', h, q⟩
    cases n with
    | zero => cases h
    | succ n =>
      rw [am_run, h1] at h
      exact ⟨n, r, s', h, q⟩
  · rintro ⟨n, r, s', h, q⟩
    exact ⟨n + 1, r, s', by rw [am_run, h1]; exact h, q⟩
theorem wp_re {v : am_V} {vs : List am_V} (h1 : am_se a L S st = some (3, t, v :: vs, S', st')) : wp m (a :: is) L S st Q ↔ Q v st' := by
  constructor
  · rintro ⟨n, r, s', h, q⟩
    cases n with
    | zero => cases h
    | succ n =>
      rw [am_run, h1] at h
      cases h
      exact q
  · intro q
    exact ⟨1, v, st', by rw [am_run, h1]; rfl, q⟩
theorem wp_ca {m' : Nat} {As : List am_V} (h1 : am_se a L S st = some (2, m', As, S', st')) : wp m (a :: is) L S st Q ↔ wp m' (am_pr m') (am_en m' As) [] st' (fun r s' => wp m is L (am_pu r S') s' Q) := by
  constructor
  · rintro ⟨n, r, s', h, q⟩
    cases n with
    | zero => cases h
    | succ n =>
      rw [am_run, h1] at h
      have h : (match am_run n m' (am_pr m') (am_en m' As) [] st' with
        | some (r1, st1) => am_run n m is L (am_pu r1 S') st1
        | none => none) = some (r, s') := h
      split at h
      · next r1 st1 h2 => exact ⟨n, r1, st1, h2, n, r, s', h, q⟩
      · cases h
  · rintro ⟨n, r, s', h, n2, r2, s2, h2, q⟩
    refine ⟨n + n2 + 1, r2, s2, ?_, q⟩
    rw [am_run, h1]
    show (match am_run (n + n2) m' (am_pr m') (am_en m' As) [] st' with
      | some (r1, st1) => am_run (n + n2) m is L (am_pu r1 S') st1
      | none => none) = some (r2, s2)
    rw [am_run_a n2 h]
    rw [Nat.add_comm]
    exact am_run_a n h2
theorem wp_mono (h : wp m is L S st Q) (hq : ∀ r s', Q r s' → Q' r s') : wp m is L S st Q' := by
  obtain ⟨n, r, s', h1, h2⟩ := h
  exact ⟨n, r, s', h1, hq r s' h2⟩
end WP
def am_RL : am_L := [(149, 18, 161), (149, 17, 160), (149, 16, 159), (149, 10, 158), (149, 9, 157), (149, 8, 156), (149, 7, 155), (149, 5, 154), (149, 3, 153), (149, 2, 152), (149, 1, 151), (149, 0, 150), (0, 4, 145), (145, 0, 80), (145, 4, 148), (145, 2, 147), (145, 1, 146), (0, 3, 137), (137, 0, 80), (137, 8, 144), (137, 7, 143), (137, 6, 142), (137, 4, 141), (137, 3, 140), (137, 2, 139), (137, 1, 138), (0, 0, 80), (80, 3, 95), (96, 7, 132), (132, 3, 136), (132, 2, 135), (132, 1, 134), (132, 0, 133), (96, 6, 127), (127, 3, 131), (127, 2, 130), (127, 1, 129), (127, 0, 128), (96, 5, 122), (122, 3, 126), (122, 2, 125), (122, 1, 124), (122, 0, 123), (96, 4, 117), (117, 3, 121), (117, 2, 120), (117, 1, 119), (117, 0, 118), (96, 3, 112), (112, 3, 116), (112, 2, 115), (112, 1, 114), (112, 0, 113), (96, 2, 107), (107, 3, 111), (107, 2, 110), (107, 1, 109), (107, 0, 108), (96, 1, 102), (102, 3, 106), (102, 2, 105), (102, 1, 104), (102, 0, 103), (96, 0, 97), (97, 3, 101), (97, 2, 100), (97, 1, 99), (97, 0, 98), (95, 0, 96), (80, 2, 90), (90, 3, 94), (90, 2, 93), (90, 1, 92), (90, 0, 91), (80, 1, 88), (88, 0, 89), (80, 0, 81), (81, 5, 87), (81, 4, 86), (81, 3, 85), (81, 2, 84), (81, 1, 83), (81, 0, 82), (0, 10, 71), (71, 3, 78), (78, 0, 79), (71, 2, 76), (76, 0, 77), (71, 1, 74), (74, 0, 75), (71, 0, 72), (72, 0, 73), (0, 9, 70), (0, 8, 63), (63, 5, 69), (63, 4, 68), (63, 3, 67), (63, 2, 66), (63, 1, 65), (63, 0, 64), (0, 7, 61), (61, 0, 62), (0, 6, 59), (59, 0, 60), (0, 5, 58), (0, 1, 1), (1, 3, 16), (17, 7, 53), (53, 3, 57), (53, 2, 56), (53, 1, 55), (53, 0, 54), (17, 6, 48), (48, 3, 52), (48, 2, 51), (48, 1, 50), (48, 0, 49), (17, 5, 43), (43, 3, 47), (43, 2, 46), (43, 1, 45), (43, 0, 44), (17, 4, 38), (38, 3, 42), (38, 2, 41), (38, 1, 40), (38, 0, 39), (17, 3, 33), (33, 3, 37), (33, 2, 36), (33, 1, 35), (33, 0, 34), (17, 2, 28), (28, 3, 32), (28, 2, 31), (28, 1, 30), (28, 0, 29), (17, 1, 23), (23, 3, 27), (23, 2, 26), (23, 1, 25), (23, 0, 24), (17, 0, 18), (18, 3, 22), (18, 2, 21), (18, 1, 20), (18, 0, 19), (16, 0, 17), (1, 2, 11), (11, 3, 15), (11, 2, 14), (11, 1, 13), (11, 0, 12), (1, 1, 9), (9, 0, 10), (1, 0, 2), (2, 5, 8), (2, 4, 7), (2, 3, 6), (2, 2, 5), (2, 1, 4), (2, 0, 3)]
def sT (h : am_F) : am_S := (162, am_RL, h)
def kd (c : Int) : Int := ((am_lay c).1 : Int)
def ln (c : Int) : Int := ((am_lay c).2 : Int)
def rR (c k : Int) : Int := am_gr am_RL c k
theorem kd_is {c : Int} {k : Int} (h : kd c = k) (h9 : k < 90) (hf : am_F) : am_is (sT hf) c k.toNat = true := by
  unfold kd at h
  have hk : (am_lay c).1 = k.toNat := by omega
  have h0 : 0 ≤ c := by
    unfold am_lay at hk
    split at hk
    · dsimp only at hk; omega
    · omega
  refine am_is_iff.mpr ⟨?_, hk, h0⟩
  show c.toNat < 162
  unfold am_lay at hk
  rw [if_neg (by omega), List.getD_eq_getElem?_getD] at hk
  cases hq : am_LY[c.toNat]? with
  | none => rw [hq] at hk; dsimp only [Option.getD] at hk; omega
  | some q => exact (List.getElem?_eq_some_iff.mp hq).1
def iDv (a b : Int) : Int := (Int32.ofInt a / Int32.ofInt b).toInt
def iRm (a b : Int) : Int := (Int32.ofInt a - Int32.ofInt a / Int32.ofInt b * Int32.ofInt b).toInt
def bAnd (a b : Int) : Int := (Int32.ofInt a &&& Int32.ofInt b).toInt
def bOr (a b : Int) : Int := (Int32.ofInt a ||| Int32.ofInt b).toInt
def bXor (a b : Int) : Int := (Int32.ofInt a ^^^ Int32.ofInt b).toInt
def bShl (a b : Int) : Int := (Int32.ofInt a <<< (Int32.ofInt b &&& 31)).toInt
def bShr (a b : Int) : Int := (Int32.ofInt a >>> (Int32.ofInt b &&& 31)).toInt
def bUsh (a b : Int) : Int := ((Int32.ofInt a).toUInt32 >>> ((Int32.ofInt b).toUInt32 &&& Int32.toUInt32 31)).toInt32.toInt
def lAnd (a b : Int) : Int := (Int64.ofInt a &&& Int64.ofInt b).toInt
def lOr (a b : Int) : Int := (Int64.ofInt a ||| Int64.ofInt b).toInt
def lShl (a b : Int) : Int := (Int64.ofInt a <<< ((Int32.ofInt b).toInt64 &&& 63)).toInt
def lShr (a b : Int) : Int := (Int64.ofInt a >>> ((Int32.ofInt b).toInt64 &&& 63)).toInt
def lCm (a b : Int) : Int := (lg_cmp (Int64.ofInt a) (Int64.ofInt b)).toInt
def iB (a : Int) : Int := (Int32.ofInt a).toInt8.toInt32.toInt
def iS (a : Int) : Int := (Int32.ofInt a).toInt16.toInt32.toInt
theorem w8_of {S : List am_V} (h : S.length ≤ 4) : am_w8 S = true := by
  have hs : (S.map am_cat).sum ≤ 2 * S.length := by
    clear h
    induction S with
    | nil => exact Nat.le_refl _
    | cons v S ih =>
      rw [List.map_cons, List.sum_cons, List.length_cons]
      have : am_cat v ≤ 2 := by unfold am_cat; split <;> omega
      omega
  simp only [am_w8, decide_eq_true_eq]
  omega
theorem w8_0 : am_w8 [] = true := w8_of (by decide)
theorem w8_1 (a : am_V) : am_w8 [a] = true := w8_of (by show (1 : Nat) ≤ 4; decide)
theorem w8_2 (a b : am_V) : am_w8 [a, b] = true := w8_of (by show (2 : Nat) ≤ 4; decide)
theorem w8_3 (a b c : am_V) : am_w8 [a, b, c] = true := w8_of (by show (3 : Nat) ≤ 4; decide)
theorem w8_4 (a b c d : am_V) : am_w8 [a, b, c, d] = true := w8_of (by show (4 : Nat) ≤ 4; decide)
theorem w8_5 (a b c d e : Int) : am_w8 [aI a, aI b, aI c, aI d, aP e] = true := by simp [am_w8, am_cat, aI, aP]
theorem nl_I (x : Int) : am_nl (aI x) = true := by simp [am_nl, aI]
theorem nl_P (x : Int) : am_nl (aP x) = true := by simp [am_nl, aP]
theorem nl_X : am_nl aX = true := by simp [am_nl, aX]
theorem pu_I (x : Int) (S : List am_V) : am_pu (aI x) S = aI x :: S := rfl
theorem pu_J (x : Int) (S : List am_V) : am_pu (aJ x) S = aJ x :: S := rfl
theorem pu_V (S : List am_V) : am_pu aV S = S := rfl
section WR
variable {m : Nat} {is : List am_I} {L S : List am_V} {st : am_S} {h : am_F} {Q : am_V → am_S → Prop} {a b v i n c d k t x y z x1 x2 x3 : Int} {u u' : am_V}
theorem r_iCONST : wp m (iCONST v :: is) L S st Q ↔ wp m is L (aI v :: S) st Q := wp_nx (t := 0) rfl
theorem r_bPUSH : wp m (bPUSH v :: is) L S st Q ↔ wp m is L (aI v :: S) st Q := wp_nx (t := 0) rfl
theorem r_sPUSH : wp m (sPUSH v :: is) L S st Q ↔ wp m is L (aI v :: S) st Q := wp_nx (t := 0) rfl
theorem r_LDC : wp m (LDC v x y :: is) L S st Q ↔ wp m is L (aI v :: S) st Q := wp_nx (t := 0) rfl
theorem r_LDCW : wp m (LDCW v x y :: is) L S st Q ↔ wp m is L (aI v :: S) st Q := wp_nx (t := 0) rfl
theorem r_lCONST : wp m (lCONST v :: is) L S st Q ↔ wp m is L (aJ v :: S) st Q := wp_nx (t := 0) rfl
theorem r_LDC2 : wp m (LDC2 v x y :: is) L S st Q ↔ wp m is L (aJ v :: S) st Q := wp_nx (t := 0) rfl
theorem r_iLD0 : wp m (iLD 0 x :: is) (aI v :: L) S st Q ↔ wp m is (aI v :: L) (aI v :: S) st Q := wp_nx (t := 0) rfl
theorem r_aLD0 : wp m (aLD 0 x :: is) (aP v :: L) S st Q ↔ wp m is (aP v :: L) (aP v :: S) st Q := wp_nx (t := 0) rfl
theorem r_lLD0 : wp m (lLD 0 x :: is) (aJ v :: L) S st Q ↔ wp m is (aJ v :: L) (aJ v :: S) st Q := wp_nx (t := 0) rfl
theorem r_iST0 : wp m (iST 0 x :: is) (u :: L) (aI v :: S) st Q ↔ wp m is (aI v :: L) S st Q := wp_nx (t := 0) (by show (if (aI v).1 = 0 ∧ (0 : Nat) < (u :: L).length ∧ am_so (u :: L) 0 = true then am_nx (aI v :: L) S st else none) = _; exact if_pos ⟨rfl, Nat.succ_pos _, rfl⟩)
theorem r_aST0 : wp m (aST 0 x :: is) (u :: L) (aP v :: S) st Q ↔ wp m is (aP v :: L) S st Q := wp_nx (t := 0) (by show (if (aP v).1 = 2 ∧ (0 : Nat) < (u :: L).length ∧ am_so (u :: L) 0 = true then am_nx (aP v :: L) S st else none) = _; exact if_pos ⟨rfl, Nat.succ_pos _, rfl⟩)
theorem r_IINC0 : wp m (IINC 0 x :: is) (aI v :: L) S st Q ↔ wp m is (aI (w3 (v + x)) :: L) S st Q := wp_nx (t := 0) (by show (if (aI v).1 = 0 ∧ am_so (aI v :: L) 0 = true then am_nx (aI (w3 (v + x)) :: L) S st else none) = _; exact if_pos ⟨rfl, rfl⟩)
theorem r_iLD1 {u0 : am_V} : wp m (iLD 1 x :: is) (u0 :: aI v :: L) S st Q ↔ wp m is (u0 :: aI v :: L) (aI v :: S) st Q := wp_nx (t := 0) rfl
theorem r_aLD1 {u0 : am_V} : wp m (aLD 1 x :: is) (u0 :: aP v :: L) S st Q ↔ wp m is (u0 :: aP v :: L) (aP v :: S) st Q := wp_nx (t := 0) rfl
theorem r_lLD1 {u0 : am_V} : wp m (lLD 1 x :: is) (u0 :: aJ v :: L) S st Q ↔ wp m is (u0 :: aJ v :: L) (aJ v :: S) st Q := wp_nx (t := 0) rfl
theorem r_iST1 {u0 : am_V} (hn : am_nl u0 = true) : wp m (iST 1 x :: is) (u0 :: u :: L) (aI v :: S) st Q ↔ wp m is (u0 :: aI v :: L) S st Q := wp_nx (t := 0) (by show (if _ ∧ _ ∧ _ then _ else _) = _; rw [if_pos ⟨rfl, by show 1 < L.length + 2; omega, by show (false || am_nl u0) = true; rw [hn]; rfl⟩]; rfl)
theorem r_aST1 {u0 : am_V} (hn : am_nl u0 = true) : wp m (aST 1 x :: is) (u0 :: u :: L) (aP v :: S) st Q ↔ wp m is (u0 :: aP v :: L) S st Q := wp_nx (t := 0) (by show (if _ ∧ _ ∧ _ then _ else _) = _; rw [if_pos ⟨rfl, by show 1 < L.length + 2; omega, by show (false || am_nl u0) = true; rw [hn]; rfl⟩]; rfl)
theorem r_IINC1 {u0 : am_V} (hn : am_nl u0 = true) : wp m (IINC 1 x :: is) (u0 :: aI v :: L) S st Q ↔ wp m is (u0 :: aI (w3 (v + x)) :: L) S st Q := wp_nx (t := 0) (by show (if _ ∧ _ then _ else _) = _; rw [if_pos ⟨rfl, by show (false || am_nl u0) = true; rw [hn]; rfl⟩]; rfl)
theorem r_iLD2 {u0 u1 : am_V} : wp m (iLD 2 x :: is) (u0 :: u1 :: aI v :: L) S st Q ↔ wp m is (u0 :: u1 :: aI v :: L) (aI v :: S) st Q := wp_nx (t := 0) rfl
theorem r_aLD2 {u0 u1 : am_V} : wp m (aLD 2 x :: is) (u0 :: u1 :: aP v :: L) S st Q ↔ wp m is (u0 :: u1 :: aP v :: L) (aP v :: S) st Q := wp_nx (t := 0) rfl
theorem r_lLD2 {u0 u1 : am_V} : wp m (lLD 2 x :: is) (u0 :: u1 :: aJ v :: L) S st Q ↔ wp m is (u0 :: u1 :: aJ v :: L) (aJ v :: S) st Q := wp_nx (t := 0) rfl
theorem r_iST2 {u0 u1 : am_V} (hn : am_nl u1 = true) : wp m (iST 2 x :: is) (u0 :: u1 :: u :: L) (aI v :: S) st Q ↔ wp m is (u0 :: u1 :: aI v :: L) S st Q := wp_nx (t := 0) (by show (if _ ∧ _ ∧ _ then _ else _) = _; rw [if_pos ⟨rfl, by show 2 < L.length + 3; omega, by show (false || am_nl u1) = true; rw [hn]; rfl⟩]; rfl)
theorem r_aST2 {u0 u1 : am_V} (hn : am_nl u1 = true) : wp m (aST 2 x :: is) (u0 :: u1 :: u :: L) (aP v :: S) st Q ↔ wp m is (u0 :: u1 :: aP v :: L) S st Q := wp_nx (t := 0) (by show (if _ ∧ _ ∧ _ then _ else _) = _; rw [if_pos ⟨rfl, by show 2 < L.length + 3; omega, by show (false || am_nl u1) = true; rw [hn]; rfl⟩]; rfl)
theorem r_IINC2 {u0 u1 : am_V} (hn : am_nl u1 = true) : wp m (IINC 2 x :: is) (u0 :: u1 :: aI v :: L) S st Q ↔ wp m is (u0 :: u1 :: aI (w3 (v + x)) :: L) S st Q := wp_nx (t := 0) (by show (if _ ∧ _ then _ else _) = _; rw [if_pos ⟨rfl, by show (false || am_nl u1) = true; rw [hn]; rfl⟩]; rfl)
theorem r_iLD3 {u0 u1 u2 : am_V} : wp m (iLD 3 x :: is) (u0 :: u1 :: u2 :: aI v :: L) S st Q ↔ wp m is (u0 :: u1 :: u2 :: aI v :: L) (aI v :: S) st Q := wp_nx (t := 0) rfl
theorem r_aLD3 {u0 u1 u2 : am_V} : wp m (aLD 3 x :: is) (u0 :: u1 :: u2 :: aP v :: L) S st Q ↔ wp m is (u0 :: u1 :: u2 :: aP v :: L) (aP v :: S) st Q := wp_nx (t := 0) rfl
theorem r_lLD3 {u0 u1 u2 : am_V} : wp m (lLD 3 x :: is) (u0 :: u1 :: u2 :: aJ v :: L) S st Q ↔ wp m is (u0 :: u1 :: u2 :: aJ v :: L) (aJ v :: S) st Q := wp_nx (t := 0) rfl
theorem r_iST3 {u0 u1 u2 : am_V} (hn : am_nl u2 = true) : wp m (iST 3 x :: is) (u0 :: u1 :: u2 :: u :: L) (aI v :: S) st Q ↔ wp m is (u0 :: u1 :: u2 :: aI v :: L) S st Q := wp_nx (t := 0) (by show (if _ ∧ _ ∧ _ then _ else _) = _; rw [if_pos ⟨rfl, by show 3 < L.length + 4; omega, by show (false || am_nl u2) = true; rw [hn]; rfl⟩]; rfl)
theorem r_aST3 {u0 u1 u2 : am_V} (hn : am_nl u2 = true) : wp m (aST 3 x :: is) (u0 :: u1 :: u2 :: u :: L) (aP v :: S) st Q ↔ wp m is (u0 :: u1 :: u2 :: aP v :: L) S st Q := wp_nx (t := 0) (by show (if _ ∧ _ ∧ _ then _ else _) = _; rw [if_pos ⟨rfl, by show 3 < L.length + 4; omega, by show (false || am_nl u2) = true; rw [hn]; rfl⟩]; rfl)
theorem r_IINC3 {u0 u1 u2 : am_V} (hn : am_nl u2 = true) : wp m (IINC 3 x :: is) (u0 :: u1 :: u2 :: aI v :: L) S st Q ↔ wp m is (u0 :: u1 :: u2 :: aI (w3 (v + x)) :: L) S st Q := wp_nx (t := 0) (by show (if _ ∧ _ then _ else _) = _; rw [if_pos ⟨rfl, by show (false || am_nl u2) = true; rw [hn]; rfl⟩]; rfl)
theorem r_iLD4 {u0 u1 u2 u3 : am_V} : wp m (iLD 4 x :: is) (u0 :: u1 :: u2 :: u3 :: aI v :: L) S st Q ↔ wp m is (u0 :: u1 :: u2 :: u3 :: aI v :: L) (aI v :: S) st Q := wp_nx (t := 0) rfl
theorem r_aLD4 {u0 u1 u2 u3 : am_V} : wp m (aLD 4 x :: is) (u0 :: u1 :: u2 :: u3 :: aP v :: L) S st Q ↔ wp m is (u0 :: u1 :: u2 :: u3 :: aP v :: L) (aP v :: S) st Q := wp_nx (t := 0) rfl
theorem r_lLD4 {u0 u1 u2 u3 : am_V} : wp m (lLD 4 x :: is) (u0 :: u1 :: u2 :: u3 :: aJ v :: L) S st Q ↔ wp m is (u0 :: u1 :: u2 :: u3 :: aJ v :: L) (aJ v :: S) st Q := wp_nx (t := 0) rfl
theorem r_iST4 {u0 u1 u2 u3 : am_V} (hn : am_nl u3 = true) : wp m (iST 4 x :: is) (u0 :: u1 :: u2 :: u3 :: u :: L) (aI v :: S) st Q ↔ wp m is (u0 :: u1 :: u2 :: u3 :: aI v :: L) S st Q := wp_nx (t := 0) (by show (if _ ∧ _ ∧ _ then _ else _) = _; rw [if_pos ⟨rfl, by show 4 < L.length + 5; omega, by show (false || am_nl u3) = true; rw [hn]; rfl⟩]; rfl)
theorem r_aST4 {u0 u1 u2 u3 : am_V} (hn : am_nl u3 = true) : wp m (aST 4 x :: is) (u0 :: u1 :: u2 :: u3 :: u :: L) (aP v :: S) st Q ↔ wp m is (u0 :: u1 :: u2 :: u3 :: aP v :: L) S st Q := wp_nx (t := 0) (by show (if _ ∧ _ ∧ _ then _ else _) = _; rw [if_pos ⟨rfl, by show 4 < L.length + 5; omega, by show (false || am_nl u3) = true; rw [hn]; rfl⟩]; rfl)
theorem r_IINC4 {u0 u1 u2 u3 : am_V} (hn : am_nl u3 = true) : wp m (IINC 4 x :: is) (u0 :: u1 :: u2 :: u3 :: aI v :: L) S st Q ↔ wp m is (u0 :: u1 :: u2 :: u3 :: aI (w3 (v + x)) :: L) S st Q := wp_nx (t := 0) (by show (if _ ∧ _ then _ else _) = _; rw [if_pos ⟨rfl, by show (false || am_nl u3) = true; rw [hn]; rfl⟩]; rfl)
theorem r_iLD5 {u0 u1 u2 u3 u4 : am_V} : wp m (iLD 5 x :: is) (u0 :: u1 :: u2 :: u3 :: u4 :: aI v :: L) S st Q ↔ wp m is (u0 :: u1 :: u2 :: u3 :: u4 :: aI v :: L) (aI v :: S) st Q := wp_nx (t := 0) rfl
theorem r_aLD5 {u0 u1 u2 u3 u4 : am_V} : wp m (aLD 5 x :: is) (u0 :: u1 :: u2 :: u3 :: u4 :: aP v :: L) S st Q ↔ wp m is (u0 :: u1 :: u2 :: u3 :: u4 :: aP v :: L) (aP v :: S) st Q := wp_nx (t := 0) rfl
theorem r_lLD5 {u0 u1 u2 u3 u4 : am_V} : wp m (lLD 5 x :: is) (u0 :: u1 :: u2 :: u3 :: u4 :: aJ v :: L) S st Q ↔ wp m is (u0 :: u1 :: u2 :: u3 :: u4 :: aJ v :: L) (aJ v :: S) st Q := wp_nx (t := 0) rfl
theorem r_iST5 {u0 u1 u2 u3 u4 : am_V} (hn : am_nl u4 = true) : wp m (iST 5 x :: is) (u0 :: u1 :: u2 :: u3 :: u4 :: u :: L) (aI v :: S) st Q ↔ wp m is (u0 :: u1 :: u2 :: u3 :: u4 :: aI v :: L) S st Q := wp_nx (t := 0) (by show (if _ ∧ _ ∧ _ then _ else _) = _; rw [if_pos ⟨rfl, by show 5 < L.length + 6; omega, by show (false || am_nl u4) = true; rw [hn]; rfl⟩]; rfl)
theorem r_aST5 {u0 u1 u2 u3 u4 : am_V} (hn : am_nl u4 = true) : wp m (aST 5 x :: is) (u0 :: u1 :: u2 :: u3 :: u4 :: u :: L) (aP v :: S) st Q ↔ wp m is (u0 :: u1 :: u2 :: u3 :: u4 :: aP v :: L) S st Q := wp_nx (t := 0) (by show (if _ ∧ _ ∧ _ then _ else _) = _; rw [if_pos ⟨rfl, by show 5 < L.length + 6; omega, by show (false || am_nl u4) = true; rw [hn]; rfl⟩]; rfl)
theorem r_IINC5 {u0 u1 u2 u3 u4 : am_V} (hn : am_nl u4 = true) : wp m (IINC 5 x :: is) (u0 :: u1 :: u2 :: u3 :: u4 :: aI v :: L) S st Q ↔ wp m is (u0 :: u1 :: u2 :: u3 :: u4 :: aI (w3 (v + x)) :: L) S st Q := wp_nx (t := 0) (by show (if _ ∧ _ then _ else _) = _; rw [if_pos ⟨rfl, by show (false || am_nl u4) = true; rw [hn]; rfl⟩]; rfl)
theorem r_iLD6 {u0 u1 u2 u3 u4 u5 : am_V} : wp m (iLD 6 x :: is) (u0 :: u1 :: u2 :: u3 :: u4 :: u5 :: aI v :: L) S st Q ↔ wp m is (u0 :: u1 :: u2 :: u3 :: u4 :: u5 :: aI v :: L) (aI v :: S) st Q := wp_nx (t := 0) rfl
theorem r_aLD6 {u0 u1 u2 u3 u4 u5 : am_V} : wp m (aLD 6 x :: is) (u0 :: u1 :: u2 :: u3 :: u4 :: u5 :: aP v :: L) S st Q ↔ wp m is (u0 :: u1 :: u2 :: u3 :: u4 :: u5 :: aP v :: L) (aP v :: S) st Q := wp_nx (t := 0) rfl
theorem r_lLD6 {u0 u1 u2 u3 u4 u5 : am_V} : wp m (lLD 6 x :: is) (u0 :: u1 :: u2 :: u3 :: u4 :: u5 :: aJ v :: L) S st Q ↔ wp m is (u0 :: u1 :: u2 :: u3 :: u4 :: u5 :: aJ v :: L) (aJ v :: S) st Q := wp_nx (t := 0) rfl
theorem r_iST6 {u0 u1 u2 u3 u4 u5 : am_V} (hn : am_nl u5 = true) : wp m (iST 6 x :: is) (u0 :: u1 :: u2 :: u3 :: u4 :: u5 :: u :: L) (aI v :: S) st Q ↔ wp m is (u0 :: u1 :: u2 :: u3 :: u4 :: u5 :: aI v :: L) S st Q := wp_nx (t := 0) (by show (if _ ∧ _ ∧ _ then _ else _) = _; rw [if_pos ⟨rfl, by show 6 < L.length + 7; omega, by show (false || am_nl u5) = true; rw [hn]; rfl⟩]; rfl)
theorem r_aST6 {u0 u1 u2 u3 u4 u5 : am_V} (hn : am_nl u5 = true) : wp m (aST 6 x :: is) (u0 :: u1 :: u2 :: u3 :: u4 :: u5 :: u :: L) (aP v :: S) st Q ↔ wp m is (u0 :: u1 :: u2 :: u3 :: u4 :: u5 :: aP v :: L) S st Q := wp_nx (t := 0) (by show (if _ ∧ _ ∧ _ then _ else _) = _; rw [if_pos ⟨rfl, by show 6 < L.length + 7; omega, by show (false || am_nl u5) = true; rw [hn]; rfl⟩]; rfl)
theorem r_IINC6 {u0 u1 u2 u3 u4 u5 : am_V} (hn : am_nl u5 = true) : wp m (IINC 6 x :: is) (u0 :: u1 :: u2 :: u3 :: u4 :: u5 :: aI v :: L) S st Q ↔ wp m is (u0 :: u1 :: u2 :: u3 :: u4 :: u5 :: aI (w3 (v + x)) :: L) S st Q := wp_nx (t := 0) (by show (if _ ∧ _ then _ else _) = _; rw [if_pos ⟨rfl, by show (false || am_nl u5) = true; rw [hn]; rfl⟩]; rfl)
theorem r_iLD7 {u0 u1 u2 u3 u4 u5 u6 : am_V} : wp m (iLD 7 x :: is) (u0 :: u1 :: u2 :: u3 :: u4 :: u5 :: u6 :: aI v :: L) S st Q ↔ wp m is (u0 :: u1 :: u2 :: u3 :: u4 :: u5 :: u6 :: aI v :: L) (aI v :: S) st Q := wp_nx (t := 0) rfl
theorem r_aLD7 {u0 u1 u2 u3 u4 u5 u6 : am_V} : wp m (aLD 7 x :: is) (u0 :: u1 :: u2 :: u3 :: u4 :: u5 :: u6 :: aP v :: L) S st Q ↔ wp m is (u0 :: u1 :: u2 :: u3 :: u4 :: u5 :: u6 :: aP v :: L) (aP v :: S) st Q := wp_nx (t := 0) rfl
theorem r_lLD7 {u0 u1 u2 u3 u4 u5 u6 : am_V} : wp m (lLD 7 x :: is) (u0 :: u1 :: u2 :: u3 :: u4 :: u5 :: u6 :: aJ v :: L) S st Q ↔ wp m is (u0 :: u1 :: u2 :: u3 :: u4 :: u5 :: u6 :: aJ v :: L) (aJ v :: S) st Q := wp_nx (t := 0) rfl
theorem r_iST7 {u0 u1 u2 u3 u4 u5 u6 : am_V} (hn : am_nl u6 = true) : wp m (iST 7 x :: is) (u0 :: u1 :: u2 :: u3 :: u4 :: u5 :: u6 :: u :: L) (aI v :: S) st Q ↔ wp m is (u0 :: u1 :: u2 :: u3 :: u4 :: u5 :: u6 :: aI v :: L) S st Q := wp_nx (t := 0) (by show (if _ ∧ _ ∧ _ then _ else _) = _; rw [if_pos ⟨rfl, by show 7 < L.length + 8; omega, by show (false || am_nl u6) = true; rw [hn]; rfl⟩]; rfl)
theorem r_aST7 {u0 u1 u2 u3 u4 u5 u6 : am_V} (hn : am_nl u6 = true) : wp m (aST 7 x :: is) (u0 :: u1 :: u2 :: u3 :: u4 :: u5 :: u6 :: u :: L) (aP v :: S) st Q ↔ wp m is (u0 :: u1 :: u2 :: u3 :: u4 :: u5 :: u6 :: aP v :: L) S st Q := wp_nx (t := 0) (by show (if _ ∧ _ ∧ _ then _ else _) = _; rw [if_pos ⟨rfl, by show 7 < L.length + 8; omega, by show (false || am_nl u6) = true; rw [hn]; rfl⟩]; rfl)
theorem r_IINC7 {u0 u1 u2 u3 u4 u5 u6 : am_V} (hn : am_nl u6 = true) : wp m (IINC 7 x :: is) (u0 :: u1 :: u2 :: u3 :: u4 :: u5 :: u6 :: aI v :: L) S st Q ↔ wp m is (u0 :: u1 :: u2 :: u3 :: u4 :: u5 :: u6 :: aI (w3 (v + x)) :: L) S st Q := wp_nx (t := 0) (by show (if _ ∧ _ then _ else _) = _; rw [if_pos ⟨rfl, by show (false || am_nl u6) = true; rw [hn]; rfl⟩]; rfl)
theorem r_iLD8 {u0 u1 u2 u3 u4 u5 u6 u7 : am_V} : wp m (iLD 8 x :: is) (u0 :: u1 :: u2 :: u3 :: u4 :: u5 :: u6 :: u7 :: aI v :: L) S st Q ↔ wp m is (u0 :: u1 :: u2 :: u3 :: u4 :: u5 :: u6 :: u7 :: aI v :: L) (aI v :: S) st Q := wp_nx (t := 0) rfl
theorem r_aLD8 {u0 u1 u2 u3 u4 u5 u6 u7 : am_V} : wp m (aLD 8 x :: is) (u0 :: u1 :: u2 :: u3 :: u4 :: u5 :: u6 :: u7 :: aP v :: L) S st Q ↔ wp m is (u0 :: u1 :: u2 :: u3 :: u4 :: u5 :: u6 :: u7 :: aP v :: L) (aP v :: S) st Q := wp_nx (t := 0) rfl
theorem r_lLD8 {u0 u1 u2 u3 u4 u5 u6 u7 : am_V} : wp m (lLD 8 x :: is) (u0 :: u1 :: u2 :: u3 :: u4 :: u5 :: u6 :: u7 :: aJ v :: L) S st Q ↔ wp m is (u0 :: u1 :: u2 :: u3 :: u4 :: u5 :: u6 :: u7 :: aJ v :: L) (aJ v :: S) st Q := wp_nx (t := 0) rfl
theorem r_iST8 {u0 u1 u2 u3 u4 u5 u6 u7 : am_V} (hn : am_nl u7 = true) : wp m (iST 8 x :: is) (u0 :: u1 :: u2 :: u3 :: u4 :: u5 :: u6 :: u7 :: u :: L) (aI v :: S) st Q ↔ wp m is (u0 :: u1 :: u2 :: u3 :: u4 :: u5 :: u6 :: u7 :: aI v :: L) S st Q := wp_nx (t := 0) (by show (if _ ∧ _ ∧ _ then _ else _) = _; rw [if_pos ⟨rfl, by show 8 < L.length + 9; omega, by show (false || am_nl u7) = true; rw [hn]; rfl⟩]; rfl)
theorem r_aST8 {u0 u1 u2 u3 u4 u5 u6 u7 : am_V} (hn : am_nl u7 = true) : wp m (aST 8 x :: is) (u0 :: u1 :: u2 :: u3 :: u4 :: u5 :: u6 :: u7 :: u :: L) (aP v :: S) st Q ↔ wp m is (u0 :: u1 :: u2 :: u3 :: u4 :: u5 :: u6 :: u7 :: aP v :: L) S st Q := wp_nx (t := 0) (by show (if _ ∧ _ ∧ _ then _ else _) = _; rw [if_pos ⟨rfl, by show 8 < L.length + 9; omega, by show (false || am_nl u7) = true; rw [hn]; rfl⟩]; rfl)
theorem r_IINC8 {u0 u1 u2 u3 u4 u5 u6 u7 : am_V} (hn : am_nl u7 = true) : wp m (IINC 8 x :: is) (u0 :: u1 :: u2 :: u3 :: u4 :: u5 :: u6 :: u7 :: aI v :: L) S st Q ↔ wp m is (u0 :: u1 :: u2 :: u3 :: u4 :: u5 :: u6 :: u7 :: aI (w3 (v + x)) :: L) S st Q := wp_nx (t := 0) (by show (if _ ∧ _ then _ else _) = _; rw [if_pos ⟨rfl, by show (false || am_nl u7) = true; rw [hn]; rfl⟩]; rfl)
theorem r_iLD9 {u0 u1 u2 u3 u4 u5 u6 u7 u8 : am_V} : wp m (iLD 9 x :: is) (u0 :: u1 :: u2 :: u3 :: u4 :: u5 :: u6 :: u7 :: u8 :: aI v :: L) S st Q ↔ wp m is (u0 :: u1 :: u2 :: u3 :: u4 :: u5 :: u6 :: u7 :: u8 :: aI v :: L) (aI v :: S) st Q := wp_nx (t := 0) rfl
theorem r_aLD9 {u0 u1 u2 u3 u4 u5 u6 u7 u8 : am_V} : wp m (aLD 9 x :: is) (u0 :: u1 :: u2 :: u3 :: u4 :: u5 :: u6 :: u7 :: u8 :: aP v :: L) S st Q ↔ wp m is (u0 :: u1 :: u2 :: u3 :: u4 :: u5 :: u6 :: u7 :: u8 :: aP v :: L) (aP v :: S) st Q := wp_nx (t := 0) rfl
theorem r_lLD9 {u0 u1 u2 u3 u4 u5 u6 u7 u8 : am_V} : wp m (lLD 9 x :: is) (u0 :: u1 :: u2 :: u3 :: u4 :: u5 :: u6 :: u7 :: u8 :: aJ v :: L) S st Q ↔ wp m is (u0 :: u1 :: u2 :: u3 :: u4 :: u5 :: u6 :: u7 :: u8 :: aJ v :: L) (aJ v :: S) st Q := wp_nx (t := 0) rfl
theorem r_iST9 {u0 u1 u2 u3 u4 u5 u6 u7 u8 : am_V} (hn : am_nl u8 = true) : wp m (iST 9 x :: is) (u0 :: u1 :: u2 :: u3 :: u4 :: u5 :: u6 :: u7 :: u8 :: u :: L) (aI v :: S) st Q ↔ wp m is (u0 :: u1 :: u2 :: u3 :: u4 :: u5 :: u6 :: u7 :: u8 :: aI v :: L) S st Q := wp_nx (t := 0) (by show (if _ ∧ _ ∧ _ then _ else _) = _; rw [if_pos ⟨rfl, by show 9 < L.length + 10; omega, by show (false || am_nl u8) = true; rw [hn]; rfl⟩]; rfl)
theorem r_aST9 {u0 u1 u2 u3 u4 u5 u6 u7 u8 : am_V} (hn : am_nl u8 = true) : wp m (aST 9 x :: is) (u0 :: u1 :: u2 :: u3 :: u4 :: u5 :: u6 :: u7 :: u8 :: u :: L) (aP v :: S) st Q ↔ wp m is (u0 :: u1 :: u2 :: u3 :: u4 :: u5 :: u6 :: u7 :: u8 :: aP v :: L) S st Q := wp_nx (t := 0) (by show (if _ ∧ _ ∧ _ then _ else _) = _; rw [if_pos ⟨rfl, by show 9 < L.length + 10; omega, by show (false || am_nl u8) = true; rw [hn]; rfl⟩]; rfl)
theorem r_IINC9 {u0 u1 u2 u3 u4 u5 u6 u7 u8 : am_V} (hn : am_nl u8 = true) : wp m (IINC 9 x :: is) (u0 :: u1 :: u2 :: u3 :: u4 :: u5 :: u6 :: u7 :: u8 :: aI v :: L) S st Q ↔ wp m is (u0 :: u1 :: u2 :: u3 :: u4 :: u5 :: u6 :: u7 :: u8 :: aI (w3 (v + x)) :: L) S st Q := wp_nx (t := 0) (by show (if _ ∧ _ then _ else _) = _; rw [if_pos ⟨rfl, by show (false || am_nl u8) = true; rw [hn]; rfl⟩]; rfl)
theorem r_iLD10 {u0 u1 u2 u3 u4 u5 u6 u7 u8 u9 : am_V} : wp m (iLD 10 x :: is) (u0 :: u1 :: u2 :: u3 :: u4 :: u5 :: u6 :: u7 :: u8 :: u9 :: aI v :: L) S st Q ↔ wp m is (u0 :: u1 :: u2 :: u3 :: u4 :: u5 :: u6 :: u7 :: u8 :: u9 :: aI v :: L) (aI v :: S) st Q := wp_nx (t := 0) rfl
theorem r_aLD10 {u0 u1 u2 u3 u4 u5 u6 u7 u8 u9 : am_V} : wp m (aLD 10 x :: is) (u0 :: u1 :: u2 :: u3 :: u4 :: u5 :: u6 :: u7 :: u8 :: u9 :: aP v :: L) S st Q ↔ wp m is (u0 :: u1 :: u2 :: u3 :: u4 :: u5 :: u6 :: u7 :: u8 :: u9 :: aP v :: L) (aP v :: S) st Q := wp_nx (t := 0) rfl
theorem r_lLD10 {u0 u1 u2 u3 u4 u5 u6 u7 u8 u9 : am_V} : wp m (lLD 10 x :: is) (u0 :: u1 :: u2 :: u3 :: u4 :: u5 :: u6 :: u7 :: u8 :: u9 :: aJ v :: L) S st Q ↔ wp m is (u0 :: u1 :: u2 :: u3 :: u4 :: u5 :: u6 :: u7 :: u8 :: u9 :: aJ v :: L) (aJ v :: S) st Q := wp_nx (t := 0) rfl
theorem r_iST10 {u0 u1 u2 u3 u4 u5 u6 u7 u8 u9 : am_V} (hn : am_nl u9 = true) : wp m (iST 10 x :: is) (u0 :: u1 :: u2 :: u3 :: u4 :: u5 :: u6 :: u7 :: u8 :: u9 :: u :: L) (aI v :: S) st Q ↔ wp m is (u0 :: u1 :: u2 :: u3 :: u4 :: u5 :: u6 :: u7 :: u8 :: u9 :: aI v :: L) S st Q := wp_nx (t := 0) (by show (if _ ∧ _ ∧ _ then _ else _) = _; rw [if_pos ⟨rfl, by show 10 < L.length + 11; omega, by show (false || am_nl u9) = true; rw [hn]; rfl⟩]; rfl)
theorem r_aST10 {u0 u1 u2 u3 u4 u5 u6 u7 u8 u9 : am_V} (hn : am_nl u9 = true) : wp m (aST 10 x :: is) (u0 :: u1 :: u2 :: u3 :: u4 :: u5 :: u6 :: u7 :: u8 :: u9 :: u :: L) (aP v :: S) st Q ↔ wp m is (u0 :: u1 :: u2 :: u3 :: u4 :: u5 :: u6 :: u7 :: u8 :: u9 :: aP v :: L) S st Q := wp_nx (t := 0) (by show (if _ ∧ _ ∧ _ then _ else _) = _; rw [if_pos ⟨rfl, by show 10 < L.length + 11; omega, by show (false || am_nl u9) = true; rw [hn]; rfl⟩]; rfl)
theorem r_IINC10 {u0 u1 u2 u3 u4 u5 u6 u7 u8 u9 : am_V} (hn : am_nl u9 = true) : wp m (IINC 10 x :: is) (u0 :: u1 :: u2 :: u3 :: u4 :: u5 :: u6 :: u7 :: u8 :: u9 :: aI v :: L) S st Q ↔ wp m is (u0 :: u1 :: u2 :: u3 :: u4 :: u5 :: u6 :: u7 :: u8 :: u9 :: aI (w3 (v + x)) :: L) S st Q := wp_nx (t := 0) (by show (if _ ∧ _ then _ else _) = _; rw [if_pos ⟨rfl, by show (false || am_nl u9) = true; rw [hn]; rfl⟩]; rfl)
theorem r_iLD11 {u0 u1 u2 u3 u4 u5 u6 u7 u8 u9 u10 : am_V} : wp m (iLD 11 x :: is) (u0 :: u1 :: u2 :: u3 :: u4 :: u5 :: u6 :: u7 :: u8 :: u9 :: u10 :: aI v :: L) S st Q ↔ wp m is (u0 :: u1 :: u2 :: u3 :: u4 :: u5 :: u6 :: u7 :: u8 :: u9 :: u10 :: aI v :: L) (aI v :: S) st Q := wp_nx (t := 0) rfl
theorem r_aLD11 {u0 u1 u2 u3 u4 u5 u6 u7 u8 u9 u10 : am_V} : wp m (aLD 11 x :: is) (u0 :: u1 :: u2 :: u3 :: u4 :: u5 :: u6 :: u7 :: u8 :: u9 :: u10 :: aP v :: L) S st Q ↔ wp m is (u0 :: u1 :: u2 :: u3 :: u4 :: u5 :: u6 :: u7 :: u8 :: u9 :: u10 :: aP v :: L) (aP v :: S) st Q := wp_nx (t := 0) rfl
theorem r_lLD11 {u0 u1 u2 u3 u4 u5 u6 u7 u8 u9 u10 : am_V} : wp m (lLD 11 x :: is) (u0 :: u1 :: u2 :: u3 :: u4 :: u5 :: u6 :: u7 :: u8 :: u9 :: u10 :: aJ v :: L) S st Q ↔ wp m is (u0 :: u1 :: u2 :: u3 :: u4 :: u5 :: u6 :: u7 :: u8 :: u9 :: u10 :: aJ v :: L) (aJ v :: S) st Q := wp_nx (t := 0) rfl
theorem r_iST11 {u0 u1 u2 u3 u4 u5 u6 u7 u8 u9 u10 : am_V} (hn : am_nl u10 = true) : wp m (iST 11 x :: is) (u0 :: u1 :: u2 :: u3 :: u4 :: u5 :: u6 :: u7 :: u8 :: u9 :: u10 :: u :: L) (aI v :: S) st Q ↔ wp m is (u0 :: u1 :: u2 :: u3 :: u4 :: u5 :: u6 :: u7 :: u8 :: u9 :: u10 :: aI v :: L) S st Q := wp_nx (t := 0) (by show (if _ ∧ _ ∧ _ then _ else _) = _; rw [if_pos ⟨rfl, by show 11 < L.length + 12; omega, by show (false || am_nl u10) = true; rw [hn]; rfl⟩]; rfl)
theorem r_aST11 {u0 u1 u2 u3 u4 u5 u6 u7 u8 u9 u10 : am_V} (hn : am_nl u10 = true) : wp m (aST 11 x :: is) (u0 :: u1 :: u2 :: u3 :: u4 :: u5 :: u6 :: u7 :: u8 :: u9 :: u10 :: u :: L) (aP v :: S) st Q ↔ wp m is (u0 :: u1 :: u2 :: u3 :: u4 :: u5 :: u6 :: u7 :: u8 :: u9 :: u10 :: aP v :: L) S st Q := wp_nx (t := 0) (by show (if _ ∧ _ ∧ _ then _ else _) = _; rw [if_pos ⟨rfl, by show 11 < L.length + 12; omega, by show (false || am_nl u10) = true; rw [hn]; rfl⟩]; rfl)
theorem r_IINC11 {u0 u1 u2 u3 u4 u5 u6 u7 u8 u9 u10 : am_V} (hn : am_nl u10 = true) : wp m (IINC 11 x :: is) (u0 :: u1 :: u2 :: u3 :: u4 :: u5 :: u6 :: u7 :: u8 :: u9 :: u10 :: aI v :: L) S st Q ↔ wp m is (u0 :: u1 :: u2 :: u3 :: u4 :: u5 :: u6 :: u7 :: u8 :: u9 :: u10 :: aI (w3 (v + x)) :: L) S st Q := wp_nx (t := 0) (by show (if _ ∧ _ then _ else _) = _; rw [if_pos ⟨rfl, by show (false || am_nl u10) = true; rw [hn]; rfl⟩]; rfl)
theorem r_iADD : wp m (iADD :: is) L (aI b :: aI a :: S) st Q ↔ wp m is L (aI (w3 (a + b)) :: S) st Q := by rw [w3, Int32.ofInt_add]; exact wp_nx (t := 0) rfl
theorem r_iSUB : wp m (iSUB :: is) L (aI b :: aI a :: S) st Q ↔ wp m is L (aI (w3 (a - b)) :: S) st Q := by rw [w3, Int32.ofInt_sub]; exact wp_nx (t := 0) rfl
theorem r_iMUL : wp m (iMUL :: is) L (aI b :: aI a :: S) st Q ↔ wp m is L (aI (w3 (a * b)) :: S) st Q := by rw [w3, Int32.ofInt_mul]; exact wp_nx (t := 0) rfl
theorem r_iNEG : wp m (iNEG :: is) L (aI a :: S) st Q ↔ wp m is L (aI (w3 (-a)) :: S) st Q := by rw [w3, Int32.ofInt_neg]; exact wp_nx (t := 0) rfl
theorem r_iDIV (hb : b ≠ 0) : wp m (iDIV :: is) L (aI b :: aI a :: S) st Q ↔ wp m is L (aI (iDv a b) :: S) st Q := wp_nx (t := 0) (by show (if b = 0 then none else _) = _; rw [if_neg hb]; rfl)
theorem r_iREM (hb : b ≠ 0) : wp m (iREM :: is) L (aI b :: aI a :: S) st Q ↔ wp m is L (aI (iRm a b) :: S) st Q := wp_nx (t := 0) (by show (if b = 0 then none else _) = _; rw [if_neg hb]; rfl)
theorem r_iSHL : wp m (iSHL :: is) L (aI b :: aI a :: S) st Q ↔ wp m is L (aI (bShl a b) :: S) st Q := wp_nx (t := 0) rfl
theorem r_iSHR : wp m (iSHR :: is) L (aI b :: aI a :: S) st Q ↔ wp m is L (aI (bShr a b) :: S) st Q := wp_nx (t := 0) rfl
theorem r_iUSHR : wp m (iUSHR :: is) L (aI b :: aI a :: S) st Q ↔ wp m is L (aI (bUsh a b) :: S) st Q := wp_nx (t := 0) rfl
theorem r_iAND : wp m (iAND :: is) L (aI b :: aI a :: S) st Q ↔ wp m is L (aI (bAnd a b) :: S) st Q := wp_nx (t := 0) rfl
theorem r_iOR : wp m (iOR :: is) L (aI b :: aI a :: S) st Q ↔ wp m is L (aI (bOr a b) :: S) st Q := wp_nx (t := 0) rfl
theorem r_iXOR : wp m (iXOR :: is) L (aI b :: aI a :: S) st Q ↔ wp m is L (aI (bXor a b) :: S) st Q := wp_nx (t := 0) rfl
theorem r_lADD : wp m (lADD :: is) L (aJ b :: aJ a :: S) st Q ↔ wp m is L (aJ (w6 (a + b)) :: S) st Q := by rw [w6, Int64.ofInt_add]; exact wp_nx (t := 0) rfl
theorem r_lMUL : wp m (lMUL :: is) L (aJ b :: aJ a :: S) st Q ↔ wp m is L (aJ (w6 (a * b)) :: S) st Q := by rw [w6, Int64.ofInt_mul]; exact wp_nx (t := 0) rfl
theorem r_lAND : wp m (lAND :: is) L (aJ b :: aJ a :: S) st Q ↔ wp m is L (aJ (lAnd a b) :: S) st Q := wp_nx (t := 0) rfl
theorem r_lOR : wp m (lOR :: is) L (aJ b :: aJ a :: S) st Q ↔ wp m is L (aJ (lOr a b) :: S) st Q := wp_nx (t := 0) rfl
theorem r_lSHL : wp m (lSHL :: is) L (aI b :: aJ a :: S) st Q ↔ wp m is L (aJ (lShl a b) :: S) st Q := wp_nx (t := 0) rfl
theorem r_lSHR : wp m (lSHR :: is) L (aI b :: aJ a :: S) st Q ↔ wp m is L (aJ (lShr a b) :: S) st Q := wp_nx (t := 0) rfl
theorem r_lCMP : wp m (lCMP :: is) L (aJ b :: aJ a :: S) st Q ↔ wp m is L (aI (lCm a b) :: S) st Q := wp_nx (t := 0) rfl
theorem r_ITL : wp m (ITL :: is) L (aI a :: S) st Q ↔ wp m is L (aJ (w3 a) :: S) st Q := by unfold w3; rw [← Int32.toInt_toInt64]; exact wp_nx (t := 0) rfl
theorem r_LTI : wp m (LTI :: is) L (aJ a :: S) st Q ↔ wp m is L (aI ((Int64.ofInt a).toInt32.toInt) :: S) st Q := wp_nx (t := 0) rfl
theorem r_ITB : wp m (ITB :: is) L (aI a :: S) st Q ↔ wp m is L (aI (iB a) :: S) st Q := wp_nx (t := 0) rfl
theorem r_ITS : wp m (ITS :: is) L (aI a :: S) st Q ↔ wp m is L (aI (iS a) :: S) st Q := wp_nx (t := 0) rfl
theorem r_POP : wp m (POP :: is) L (aI a :: S) st Q ↔ wp m is L S st Q := wp_nx (t := 0) rfl
theorem r_DUPI : wp m (DUP :: is) L (aI a :: S) st Q ↔ wp m is L (aI a :: aI a :: S) st Q := wp_nx (t := 0) rfl
theorem r_DUPP : wp m (DUP :: is) L (aP a :: S) st Q ↔ wp m is L (aP a :: aP a :: S) st Q := wp_nx (t := 0) rfl
theorem r_DUP2 : wp m (DUP2 :: is) L (aI a :: aP b :: S) st Q ↔ wp m is L (aI a :: aP b :: aI a :: aP b :: S) st Q := wp_nx (t := 0) rfl
theorem r_GOTO : wp m (GOTO t :: is) L S st Q ↔ wp m (am_ju m t) L S st Q := wp_jp rfl
theorem wp_if {P : Prop} [Decidable P] {a : am_I} {L S S' : List am_V} (hs : am_se a L S st = (if decide P = true then am_jp t L S' st else am_nx L S' st)) : wp m (a :: is) L S st Q ↔ (if P then wp m (am_ju m t) L S' st Q else wp m is L S' st Q) := by
  by_cases hP : P
  · rw [if_pos hP]
    exact wp_jp (by rw [hs, if_pos (decide_eq_true hP)]; rfl)
  · rw [if_neg hP]
    exact wp_nx (t := 0) (by rw [hs, if_neg (by simpa using hP)]; rfl)
theorem r_IF0 : wp m (IFC 0 t :: is) L (aI a :: S) st Q ↔ (if a = 0 then wp m (am_ju m t) L S st Q else wp m is L S st Q) := wp_if rfl
theorem r_IF1 : wp m (IFC 1 t :: is) L (aI a :: S) st Q ↔ (if ¬ a = 0 then wp m (am_ju m t) L S st Q else wp m is L S st Q) := wp_if rfl
theorem r_IF2 : wp m (IFC 2 t :: is) L (aI a :: S) st Q ↔ (if a < 0 then wp m (am_ju m t) L S st Q else wp m is L S st Q) := wp_if rfl
theorem r_IF3 : wp m (IFC 3 t :: is) L (aI a :: S) st Q ↔ (if 0 ≤ a then wp m (am_ju m t) L S st Q else wp m is L S st Q) := wp_if rfl
theorem r_IF4 : wp m (IFC 4 t :: is) L (aI a :: S) st Q ↔ (if 0 < a then wp m (am_ju m t) L S st Q else wp m is L S st Q) := wp_if rfl
theorem r_IF5 : wp m (IFC 5 t :: is) L (aI a :: S) st Q ↔ (if a ≤ 0 then wp m (am_ju m t) L S st Q else wp m is L S st Q) := wp_if rfl
theorem r_IC0 : wp m (ICMP 0 t :: is) L (aI b :: aI a :: S) st Q ↔ (if a = b then wp m (am_ju m t) L S st Q else wp m is L S st Q) := wp_if rfl
theorem r_IC1 : wp m (ICMP 1 t :: is) L (aI b :: aI a :: S) st Q ↔ (if ¬ a = b then wp m (am_ju m t) L S st Q else wp m is L S st Q) := wp_if rfl
theorem r_IC2 : wp m (ICMP 2 t :: is) L (aI b :: aI a :: S) st Q ↔ (if a < b then wp m (am_ju m t) L S st Q else wp m is L S st Q) := wp_if rfl
theorem r_IC3 : wp m (ICMP 3 t :: is) L (aI b :: aI a :: S) st Q ↔ (if b ≤ a then wp m (am_ju m t) L S st Q else wp m is L S st Q) := wp_if rfl
theorem r_IC4 : wp m (ICMP 4 t :: is) L (aI b :: aI a :: S) st Q ↔ (if b < a then wp m (am_ju m t) L S st Q else wp m is L S st Q) := wp_if rfl
theorem r_IC5 : wp m (ICMP 5 t :: is) L (aI b :: aI a :: S) st Q ↔ (if a ≤ b then wp m (am_ju m t) L S st Q else wp m is L S st Q) := wp_if rfl
def tswT (ps : List Int) (v : Int) : Int := if am_pa ps 0 ≤ v ∧ v ≤ am_pa ps 1 then am_pa ps (3 + (v - am_pa ps 0).toNat) else am_pa ps 2
theorem r_TSW {ps : List Int} : wp m (TSW ps :: is) L (aI v :: S) st Q ↔ wp m (am_ju m (tswT ps v)) L S st Q := by
  refine wp_jp ?_
  show (if am_pa ps 0 ≤ v ∧ v ≤ am_pa ps 1 then _ else _) = _
  unfold tswT
  split <;> rfl
theorem r_LSW {d : Int} {ps : List Int} : wp m (LSW (d :: ps) :: is) L (aI v :: S) st Q ↔ wp m (am_ju m (am_lk ps v d)) L S st Q := wp_jp rfl
theorem r_gI (hk : kd c = i) (h9 : i < 90) : wp m (gI i k x y :: is) L (aP c :: S) (sT h) Q ↔ wp m is L (aI (h c k) :: S) (sT h) Q := wp_nx (t := 0) (by
  show (if am_is (sT h) c i.toNat = true then _ else _) = _
  rw [if_pos (kd_is hk h9 h)]
  rfl)
theorem r_gR (hk : kd c = i) (h9 : i < 90) (h0 : 0 ≤ rR c k) : wp m (gR i k x y :: is) L (aP c :: S) (sT h) Q ↔ wp m is L (aP (rR c k) :: S) (sT h) Q := wp_nx (t := 0) (by
  show (if am_is (sT h) c i.toNat = true ∧ 0 ≤ rR c k then _ else _) = _
  rw [if_pos ⟨kd_is hk h9 h, h0⟩]
  rfl)
theorem r_pI (hk : kd c = i) (h9 : i < 90) : wp m (pI i k x y :: is) L (aI v :: aP c :: S) (sT h) Q ↔ wp m is L S (sT (up h c k v)) Q := wp_nx (t := 0) (by
  show (if am_is (sT h) c i.toNat = true then _ else _) = _
  rw [if_pos (kd_is hk h9 h)]
  rfl)
theorem r_pZ (hk : kd c = i) (h9 : i < 90) (hv : v = 0 ∨ v = 1) : wp m (pZ i k x y :: is) L (aI v :: aP c :: S) (sT h) Q ↔ wp m is L S (sT (up h c k v)) Q := wp_nx (t := 0) (by
  show (if am_is (sT h) c i.toNat = true ∧ (v = 0 ∨ v = 1) then _ else _) = _
  rw [if_pos ⟨kd_is hk h9 h, hv⟩]
  rfl)
theorem wp_andE {P : Prop} [Decidable P] {a : am_I} {r : am_R} (hs : am_se a L S st = (if P then some r else none)) {R : Prop} (hR : am_se a L S st = some r → (wp m (a :: is) L S st Q ↔ R)) : wp m (a :: is) L S st Q ↔ (P ∧ R) := by
  by_cases hP : P
  · rw [if_pos hP] at hs
    rw [hR hs]
    exact ⟨fun q => ⟨hP, q⟩, fun q => q.2⟩
  · rw [if_neg hP] at hs
    constructor
    · rintro ⟨n, r, s', h, q⟩
      cases n with
      | zero => cases h
      | succ n => rw [am_run, hs] at h; cases h
    · exact fun q => absurd q.1 hP
theorem r_iALD (hk : kd c = 20) : wp m (iALD :: is) L (aI i :: aP c :: S) (sT h) Q ↔ ((0 ≤ i ∧ i < ln c) ∧ wp m is L (aI (h c i) :: S) (sT h) Q) := by
  have h1 := kd_is hk (by decide) h
  have hc : c ≠ -1 := by
    have := (am_is_iff.mp h1).2.2
    omega
  refine wp_andE (r := (0, 0, L, aI (h c i) :: S, sT h)) ?_ (fun q => wp_nx q)
  show (if c = -1 then _ else if am_is (sT h) c 20 = true ∧ am_ix c i = true then _ else _) = _
  rw [if_neg hc]
  by_cases hi : 0 ≤ i ∧ i < ln c
  · rw [if_pos ⟨h1, am_ix_iff.mpr hi⟩, if_pos hi]; rfl
  · rw [if_neg (fun z => hi (am_ix_iff.mp z.2)), if_neg hi]
theorem r_iALDs : wp m (iALD :: is) L (aI i :: aP (-1) :: S) (sT h) Q ↔ ((0 ≤ i ∧ i < h (-1) (-1)) ∧ wp m is L (aI (h (-1) i) :: S) (sT h) Q) := by
  refine wp_andE (r := (0, 0, L, aI (h (-1) i) :: S, sT h)) ?_ (fun q => wp_nx q)
  rfl
theorem r_iAST (hk : kd c = 20) : wp m (iAST :: is) L (aI v :: aI i :: aP c :: S) (sT h) Q ↔ ((0 ≤ i ∧ i < ln c) ∧ wp m is L S (sT (up h c i v)) Q) := by
  have h1 := kd_is hk (by decide) h
  refine wp_andE (r := (0, 0, L, S, sT (up h c i v))) ?_ (fun q => wp_nx q)
  show (if am_is (sT h) c 20 = true ∧ am_ix c i = true then _ else _) = _
  by_cases hi : 0 ≤ i ∧ i < ln c
  · rw [if_pos ⟨h1, am_ix_iff.mpr hi⟩, if_pos hi]; rfl
  · rw [if_neg (fun z => hi (am_ix_iff.mp z.2)), if_neg hi]
theorem r_lALD (hk : kd c = 21) : wp m (lALD :: is) L (aI i :: aP c :: S) (sT h) Q ↔ ((0 ≤ i ∧ i < ln c) ∧ wp m is L (aJ (h c i) :: S) (sT h) Q) := by
  have h1 := kd_is hk (by decide) h
  refine wp_andE (r := (0, 0, L, aJ (h c i) :: S, sT h)) ?_ (fun q => wp_nx q)
  show (if am_is (sT h) c 21 = true ∧ am_ix c i = true then _ else _) = _
  by_cases hi : 0 ≤ i ∧ i < ln c
  · rw [if_pos ⟨h1, am_ix_iff.mpr hi⟩, if_pos hi]; rfl
  · rw [if_neg (fun z => hi (am_ix_iff.mp z.2)), if_neg hi]
theorem r_lAST (hk : kd c = 21) : wp m (lAST :: is) L (aJ v :: aI i :: aP c :: S) (sT h) Q ↔ ((0 ≤ i ∧ i < ln c) ∧ wp m is L S (sT (up h c i v)) Q) := by
  have h1 := kd_is hk (by decide) h
  refine wp_andE (r := (0, 0, L, S, sT (up h c i v))) ?_ (fun q => wp_nx q)
  show (if am_is (sT h) c 21 = true ∧ am_ix c i = true then _ else _) = _
  by_cases hi : 0 ≤ i ∧ i < ln c
  · rw [if_pos ⟨h1, am_ix_iff.mpr hi⟩, if_pos hi]; rfl
  · rw [if_neg (fun z => hi (am_ix_iff.mp z.2)), if_neg hi]
theorem r_aALD (hk : kd c = 22 ∨ kd c = 23) (h0 : 0 ≤ rR c i) : wp m (aALD :: is) L (aI i :: aP c :: S) (sT h) Q ↔ ((0 ≤ i ∧ i < ln c) ∧ wp m is L (aP (rR c i) :: S) (sT h) Q) := by
  have h1 : am_is (sT h) c 22 = true ∨ am_is (sT h) c 23 = true := hk.imp (fun q => kd_is q (by decide) h) (fun q => kd_is q (by decide) h)
  refine wp_andE (r := (0, 0, L, aP (rR c i) :: S, sT h)) ?_ (fun q => wp_nx q)
  show (if (am_is (sT h) c 22 = true ∨ am_is (sT h) c 23 = true) ∧ am_ix c i = true ∧ 0 ≤ rR c i then _ else _) = _
  by_cases hi : 0 ≤ i ∧ i < ln c
  · rw [if_pos ⟨h1, am_ix_iff.mpr hi, h0⟩, if_pos hi]; rfl
  · rw [if_neg (fun z => hi (am_ix_iff.mp z.2.1)), if_neg hi]
theorem r_aLEN (hk : kd c = 20 ∨ kd c = 21) : wp m (aLEN :: is) L (aP c :: S) (sT h) Q ↔ wp m is L (aI (ln c) :: S) (sT h) Q := by
  have h1 : am_is (sT h) c 20 = true ∨ am_is (sT h) c 21 = true := hk.imp (fun q => kd_is q (by decide) h) (fun q => kd_is q (by decide) h)
  have hc : c ≠ -1 := by
    have : 0 ≤ c := h1.elim (fun q => (am_is_iff.mp q).2.2) (fun q => (am_is_iff.mp q).2.2)
    omega
  refine wp_nx (t := 0) ?_
  show (if c = -1 then _ else if am_is (sT h) c 20 = true ∨ am_is (sT h) c 21 = true then _ else _) = _
  rw [if_neg hc, if_pos h1]
  rfl
theorem r_aLENs : wp m (aLEN :: is) L (aP (-1) :: S) (sT h) Q ↔ wp m is L (aI (h (-1) (-1)) :: S) (sT h) Q := wp_nx (t := 0) rfl
theorem r_ACPY (h8 : am_w8 S = true) (hk : (kd c = 20 ∧ kd d = 20) ∨ (kd c = 21 ∧ kd d = 21)) : wp m (ACPY x y :: is) L (aI n :: aI t :: aP d :: aI z :: aP c :: S) (sT h) Q ↔ ((0 ≤ n ∧ 0 ≤ z ∧ 0 ≤ t ∧ z + n ≤ ln c ∧ t + n ≤ ln d) ∧ wp m is L S (sT (cpy h c z d t n)) Q) := by
  have h1 : (am_is (sT h) c 20 = true ∧ am_is (sT h) d 20 = true) ∨ (am_is (sT h) c 21 = true ∧ am_is (sT h) d 21 = true) := hk.imp (fun q => ⟨kd_is q.1 (by decide) h, kd_is q.2 (by decide) h⟩) (fun q => ⟨kd_is q.1 (by decide) h, kd_is q.2 (by decide) h⟩)
  refine wp_andE (r := (0, 0, L, S, sT (cpy h c z d t n))) ?_ (fun q => wp_nx q)
  show (if ((am_is (sT h) c 20 = true ∧ am_is (sT h) d 20 = true) ∨ (am_is (sT h) c 21 = true ∧ am_is (sT h) d 21 = true)) ∧ 0 ≤ n ∧ 0 ≤ z ∧ 0 ≤ t ∧ z + n ≤ ln c ∧ t + n ≤ ln d ∧ am_w8 S = true then _ else _) = _
  by_cases hi : 0 ≤ n ∧ 0 ≤ z ∧ 0 ≤ t ∧ z + n ≤ ln c ∧ t + n ≤ ln d
  · rw [if_pos ⟨h1, hi.1, hi.2.1, hi.2.2.1, hi.2.2.2.1, hi.2.2.2.2, h8⟩, if_pos hi]; rfl
  · rw [if_neg (fun z => hi ⟨z.2.1, z.2.2.1, z.2.2.2.1, z.2.2.2.2.1, z.2.2.2.2.2.1⟩), if_neg hi]
theorem r_MMAX (h8 : am_w8 S = true) : wp m (MMAX x y :: is) L (aI b :: aI a :: S) st Q ↔ wp m is L (aI (if a < b then b else a) :: S) st Q := wp_nx (t := 0) (by
  show (if am_w8 S = true then _ else _) = _
  rw [if_pos h8]; rfl)
theorem r_MMIN (h8 : am_w8 S = true) : wp m (MMIN x y :: is) L (aI b :: aI a :: S) st Q ↔ wp m is L (aI (if b < a then b else a) :: S) st Q := wp_nx (t := 0) (by
  show (if am_w8 S = true then _ else _) = _
  rw [if_pos h8]; rfl)
theorem r_iRET : wp m (iRET :: is) L [aI v] st Q ↔ Q (aI v) st := wp_re rfl
theorem r_lRET : wp m (lRET :: is) L [aJ v] st Q ↔ Q (aJ v) st := wp_re rfl
theorem r_vRET : wp m (vRET :: is) L [] st Q ↔ Q aV st := wp_re rfl
theorem r_zRET (hv : v = 0 ∨ v = 1) : wp m (zRET :: is) L [aI v] st Q ↔ Q (aI v) st := wp_re (t := 0) (vs := []) (S' := []) (by
  show (if v = 0 ∨ v = 1 then _ else _) = _
  rw [if_pos hv]; rfl)
theorem r_CALL {y : Int} {As : List am_V} {m' : Nat} (hm : x1.toNat = m') (hA : (S.take x2.toNat).reverse = As) {Sr : List am_V} (hS : S.drop x2.toNat = Sr) (h8 : am_w8 Sr = true) (hck : am_ck m' As st = true) : wp m (CALL x1 x2 x3 y z :: is) L S st Q ↔ wp m' (am_pr m') (am_en m' As) [] st (fun r s' => wp m is L (am_pu r Sr) s' Q) := by
  subst hm; subst hA; subst hS
  refine wp_ca ?_
  show (if am_w8 _ = true ∧ am_ck _ _ _ = true then _ else _) = _
  exact if_pos ⟨h8, hck⟩
end WR
end
section
theorem ju_0_0 : am_ju 0 0 = aLD 0 1 :: OINI 3 92 :: aLD 0 1 :: iCONST 3 :: nARR 0 :: pF 2 0 9 93 :: aLD 0 1 :: bPUSH 8 :: nARR 0 :: pF 2 1 15 96 :: aLD 0 1 :: bPUSH 8 :: nARR 0 :: pF 2 2 18 99 :: aLD 0 1 :: bPUSH 8 :: nARR 0 :: pF 2 3 21 102 :: aLD 0 1 :: bPUSH 8 :: nARR 0 :: pF 2 4 24 105 :: aLD 0 1 :: bPUSH 8 :: nARR 0 :: pF 2 5 27 109 :: aLD 0 1 :: iCONST 0 :: pI 2 6 30 112 :: aLD 0 1 :: iCONST 0 :: pI 2 7 34 117 :: vRET :: [] := rfl
theorem ju_1_0 : am_ju 1 0 = aLD 0 1 :: OINI 3 144 :: aLD 0 1 :: bPUSH 20 :: nARR 0 :: pF 8 0 9 145 :: aLD 0 1 :: iCONST 0 :: pI 8 1 15 147 :: vRET :: [] := rfl
theorem ju_2_0 : am_ju 2 0 = aLD 0 1 :: OINI 3 163 :: aLD 0 1 :: iCONST 3 :: nARR 0 :: pF 3 0 9 164 :: aLD 0 1 :: iCONST 3 :: nARR 0 :: pF 3 1 15 167 :: aLD 0 1 :: iCONST 3 :: nARR 0 :: pF 3 2 18 170 :: aLD 0 1 :: bPUSH 8 :: nARR 0 :: pF 3 3 21 173 :: aLD 0 1 :: iCONST 0 :: pI 3 4 24 176 :: aLD 0 1 :: iCONST 1 :: pI 3 5 28 180 :: vRET :: [] := rfl
theorem ju_3_0 : am_ju 3 0 = aLD 0 1 :: OINI 3 200 :: aLD 0 1 :: bPUSH 8 :: ANEW 0 9 201 :: pF 5 0 11 204 :: aLD 0 1 :: iCONST 0 :: pI 5 1 17 205 :: aLD 0 1 :: iCONST 0 :: pI 5 2 21 206 :: iCONST 0 :: iST 1 1 :: am_ju 3 14 := rfl
theorem ju_3_14 : am_ju 3 14 = iLD 1 1 :: bPUSH 8 :: ICMP 3 26 :: aLD 0 1 :: gR 5 0 11 204 :: iLD 1 1 :: NEW 3 9 201 :: DUP :: CALL 2 1 5 24 203 :: aAST :: IINC 1 1 :: GOTO 14 :: am_ju 3 26 := rfl
theorem ju_3_26 : am_ju 3 26 = vRET :: [] := rfl
theorem ju_4_0 : am_ju 4 0 = aLD 0 1 :: OINI 3 86 :: aLD 0 1 :: NEW 2 9 87 :: DUP :: CALL 0 1 5 11 89 :: pF 9 0 12 216 :: aLD 0 1 :: NEW 8 18 139 :: DUP :: CALL 1 1 5 20 141 :: pF 9 1 21 220 :: aLD 0 1 :: NEW 3 25 158 :: DUP :: CALL 2 1 5 27 160 :: pF 9 2 28 223 :: aLD 0 1 :: NEW 5 32 195 :: DUP :: CALL 3 1 4 34 197 :: pF 9 3 35 226 :: vRET :: [] := rfl
theorem ju_5_0 : am_ju 5 0 = aLD 0 1 :: OINI 3 242 :: aLD 0 1 :: iCONST 0 :: pI 0 0 9 243 :: aLD 0 1 :: iCONST 0 :: pI 0 1 15 247 :: aLD 0 1 :: iCONST 0 :: pI 0 2 18 251 :: aLD 0 1 :: iCONST 0 :: pI 0 3 21 254 :: aLD 0 1 :: iCONST 0 :: pI 0 4 24 257 :: aLD 0 1 :: iCONST 0 :: pI 0 5 27 259 :: aLD 0 1 :: iCONST 0 :: pI 0 6 30 261 :: aLD 0 1 :: iCONST 0 :: pI 0 7 33 262 :: vRET :: [] := rfl
theorem ju_6_0 : am_ju 6 0 = aLD 0 1 :: OINI 3 285 :: aLD 0 1 :: bPUSH 100 :: nARR 0 :: pF 7 0 9 286 :: aLD 0 1 :: iCONST 0 :: pI 7 1 15 287 :: aLD 0 1 :: iCONST 0 :: pI 7 2 19 289 :: vRET :: [] := rfl
theorem ju_7_0 : am_ju 7 0 = aLD 0 1 :: OINI 3 307 :: aLD 0 1 :: bPUSH 24 :: nARR 1 :: pF 6 0 9 308 :: aLD 0 1 :: iCONST 1 :: pZ 6 1 15 310 :: aLD 0 1 :: iCONST 0 :: pI 6 2 19 312 :: aLD 0 1 :: iCONST 0 :: pI 6 3 23 314 :: vRET :: [] := rfl
theorem ju_8_0 : am_ju 8 0 = aLD 0 1 :: OINI 3 331 :: aLD 0 1 :: NEW 0 9 332 :: DUP :: CALL 5 1 5 11 333 :: pF 4 1 12 335 :: aLD 0 1 :: bPUSH 20 :: nARR 0 :: pF 4 2 18 336 :: aLD 0 1 :: bPUSH 20 :: nARR 0 :: pF 4 3 22 338 :: aLD 0 1 :: bPUSH 6 :: nARR 0 :: pF 4 4 25 339 :: aLD 0 1 :: iCONST 0 :: pI 4 5 28 340 :: aLD 0 1 :: sPUSH 192 :: nARR 0 :: pF 4 6 32 341 :: aLD 0 1 :: bPUSH 6 :: nARR 0 :: pF 4 7 35 342 :: aLD 0 1 :: bPUSH 6 :: nARR 0 :: pF 4 8 38 343 :: aLD 0 1 :: bPUSH 99 :: pI 4 9 41 344 :: aLD 0 1 :: aLD 1 1 :: pF 4 0 44 334 :: vRET :: [] := rfl
theorem ju_9_0 : am_ju 9 0 = aLD 0 1 :: OINI 3 372 :: aLD 0 1 :: bPUSH 6 :: nARR 0 :: pF 1 1 9 374 :: aLD 0 1 :: bPUSH 6 :: nARR 0 :: pF 1 2 15 375 :: aLD 0 1 :: iCONST 0 :: pI 1 3 18 376 :: aLD 0 1 :: bPUSH 64 :: nARR 0 :: pF 1 4 22 377 :: aLD 0 1 :: aLD 1 1 :: pF 1 0 25 373 :: vRET :: [] := rfl
theorem ju_10_0 : am_ju 10 0 = aLD 0 1 :: OINI 1 78 :: aLD 0 1 :: NEW 9 7 81 :: DUP :: CALL 4 1 5 9 83 :: pF 10 1 10 391 :: aLD 0 1 :: iCONST 0 :: pZ 10 2 16 392 :: aLD 0 1 :: NEW 0 20 237 :: DUP :: CALL 5 1 5 22 239 :: pF 10 5 23 395 :: aLD 0 1 :: NEW 7 27 280 :: DUP :: CALL 6 1 5 29 282 :: pF 10 6 30 396 :: aLD 0 1 :: NEW 8 34 297 :: DUP :: CALL 1 1 5 36 298 :: pF 10 7 37 397 :: aLD 0 1 :: NEW 2 41 299 :: DUP :: CALL 0 1 5 43 300 :: pF 10 8 44 398 :: aLD 0 1 :: bPUSH 8 :: nARR 0 :: pF 10 9 48 399 :: aLD 0 1 :: iCONST 4 :: ANEW 1 52 301 :: DUP :: iCONST 0 :: NEW 6 52 301 :: DUP :: CALL 7 1 5 54 304 :: aAST :: DUP :: iCONST 1 :: NEW 6 52 301 :: DUP :: CALL 7 1 5 54 304 :: aAST :: DUP :: iCONST 2 :: NEW 6 52 301 :: DUP :: CALL 7 1 5 54 304 :: aAST :: DUP :: iCONST 3 :: NEW 6 52 301 :: DUP :: CALL 7 1 5 54 304 :: aAST :: pF 10 10 55 400 :: NEW 9 7 81 :: DUP :: CALL 4 1 5 9 83 :: aST 1 1 :: aLD 0 1 :: aLD 1 1 :: pF 10 0 59 390 :: aLD 0 1 :: NEW 4 62 326 :: DUP :: aLD 1 1 :: CALL 8 2 4 64 328 :: pF 10 3 67 393 :: aLD 0 1 :: NEW 1 71 367 :: DUP :: aLD 1 1 :: CALL 9 2 4 73 369 :: pF 10 4 74 394 :: vRET :: [] := rfl
theorem ju_11_0 : am_ju 11 0 = aLD 0 1 :: OINI 1 1020 :: aLD 0 1 :: sPUSH 238 :: nARR 0 :: pF 11 0 7 1021 :: aLD 0 1 :: sPUSH 238 :: nARR 0 :: pF 11 1 13 1022 :: aLD 0 1 :: sPUSH 238 :: nARR 0 :: pF 11 2 16 1023 :: aLD 0 1 :: sPUSH 238 :: nARR 0 :: pF 11 3 19 1024 :: aLD 0 1 :: bPUSH 100 :: nARR 0 :: pF 11 5 22 1026 :: aLD 0 1 :: iCONST 4 :: nARR 0 :: pF 11 7 25 1028 :: aLD 0 1 :: iCONST 4 :: nARR 0 :: pF 11 8 28 1029 :: aLD 0 1 :: bPUSH 96 :: nARR 1 :: pF 11 9 31 1030 :: aLD 0 1 :: bPUSH 24 :: nARR 1 :: pF 11 10 35 1031 :: aLD 0 1 :: bPUSH 6 :: nARR 0 :: pF 11 16 38 1037 :: aLD 0 1 :: bPUSH 6 :: nARR 0 :: pF 11 17 41 1038 :: aLD 0 1 :: bPUSH 6 :: nARR 0 :: pF 11 18 44 1039 :: aLD 0 1 :: gR 11 0 7 1021 :: iCONST 4 :: iCONST 1 :: iAST :: iCONST 0 :: iST 1 1 :: am_ju 11 57 := rfl
theorem ju_11_57 : am_ju 11 57 = iLD 1 1 :: iCONST 4 :: ICMP 3 67 :: aLD 0 1 :: gR 11 7 25 1028 :: iLD 1 1 :: iCONST (-1) :: iAST :: IINC 1 1 :: GOTO 57 :: am_ju 11 67 := rfl
theorem ju_11_67 : am_ju 11 67 = vRET :: [] := rfl
theorem ju_12_0 : am_ju 12 0 = iLD 0 1 :: IFC 2 7 :: iLD 0 1 :: iLD 1 1 :: ICMP 3 7 :: iCONST 1 :: GOTO 8 :: am_ju 12 7 := rfl
theorem ju_12_7 : am_ju 12 7 = iCONST 0 :: am_ju 12 8 := rfl
theorem ju_12_8 : am_ju 12 8 = zRET :: [] := rfl
theorem ju_13_0 : am_ju 13 0 = iLD 1 1 :: iCONST 3 :: CALL 12 2 1 31 439 :: IFC 1 5 :: vRET :: am_ju 13 5 := rfl
theorem ju_13_5 : am_ju 13 5 = aLD 0 1 :: gR 3 0 9 164 :: iLD 1 1 :: iCONST 0 :: iAST :: aLD 0 1 :: gR 3 1 15 167 :: iLD 1 1 :: iCONST 0 :: iAST :: aLD 0 1 :: gR 3 2 18 170 :: iLD 1 1 :: iCONST 0 :: iAST :: vRET :: [] := rfl
theorem ju_14_0 : am_ju 14 0 = aLD 0 1 :: gI 2 6 30 112 :: iCONST 3 :: ICMP 2 5 :: vRET :: am_ju 14 5 := rfl
theorem ju_14_5 : am_ju 14 5 = aLD 0 1 :: gR 2 0 9 93 :: aLD 0 1 :: gI 2 6 30 112 :: iLD 1 1 :: iAST :: aLD 0 1 :: DUP :: gI 2 6 30 112 :: iCONST 1 :: iADD :: pI 2 6 30 112 :: vRET :: [] := rfl
theorem ju_15_0 : am_ju 15 0 = aLD 0 1 :: gR 9 2 28 223 :: aLD 0 1 :: gR 9 0 12 216 :: gI 2 6 39 113 :: CALL 13 2 2 43 435 :: aLD 0 1 :: gR 9 0 12 216 :: iLD 1 1 :: CALL 14 2 2 47 440 :: aLD 0 1 :: gR 9 3 35 226 :: iCONST 0 :: pI 5 2 50 207 :: vRET :: [] := rfl
theorem ju_16_0 : am_ju 16 0 = iLD 1 1 :: iCONST 4 :: CALL 12 2 0 78 428 :: IFC 1 6 :: iCONST (-1) :: iRET :: am_ju 16 6 := rfl
theorem ju_16_6 : am_ju 16 6 = aLD 0 1 :: gR 10 0 59 390 :: gR 9 0 82 217 :: gI 2 6 85 114 :: iCONST 3 :: ICMP 2 14 :: bPUSH (-3) :: iRET :: am_ju 16 14 := rfl
theorem ju_16_14 : am_ju 16 14 = aLD 0 1 :: gR 10 0 59 390 :: iLD 1 1 :: CALL 15 2 2 89 431 :: aLD 0 1 :: gR 10 0 59 390 :: gR 9 0 82 217 :: gI 2 6 85 114 :: iCONST 1 :: iSUB :: iRET :: [] := rfl
theorem ju_17_0 : am_ju 17 0 = iLD 0 1 :: iLD 1 1 :: ICMP 2 8 :: iLD 0 1 :: iLD 2 1 :: ICMP 4 8 :: iCONST 1 :: GOTO 9 :: am_ju 17 8 := rfl
theorem ju_17_8 : am_ju 17 8 = iCONST 0 :: am_ju 17 9 := rfl
theorem ju_17_9 : am_ju 17 9 = zRET :: [] := rfl
theorem ju_18_0 : am_ju 18 0 = bPUSH 6 :: iCONST 4 :: iLD 0 1 :: iMUL :: iADD :: iRET :: [] := rfl
theorem ju_19_0 : am_ju 19 0 = aLD 0 1 :: iCONST 0 :: iALD :: CALL 18 1 0 51 1089 :: iST 2 1 :: aLD 0 1 :: iLD 2 1 :: iCONST 0 :: iADD :: iLD 1 1 :: iAST :: aLD 0 1 :: iLD 2 1 :: iCONST 1 :: iADD :: iCONST 0 :: iAST :: aLD 0 1 :: iLD 2 1 :: iCONST 2 :: iADD :: iCONST 0 :: iAST :: aLD 0 1 :: iLD 2 1 :: iCONST 3 :: iADD :: iCONST 0 :: iAST :: aLD 0 1 :: iCONST 0 :: DUP2 :: iALD :: iCONST 1 :: iADD :: iAST :: aLD 0 1 :: iCONST 5 :: iCONST 0 :: iAST :: vRET :: [] := rfl
theorem ju_20_0 : am_ju 20 0 = iLD 1 1 :: iCONST 0 :: iCONST 3 :: CALL 17 3 0 47 1083 :: IFC 1 7 :: iCONST (-1) :: iRET :: am_ju 20 7 := rfl
theorem ju_20_7 : am_ju 20 7 = aLD 0 1 :: gR 11 0 7 1021 :: iCONST 0 :: iALD :: iCONST 3 :: ICMP 1 15 :: bPUSH (-3) :: iRET :: am_ju 20 15 := rfl
theorem ju_20_15 : am_ju 20 15 = aLD 0 1 :: gR 11 0 7 1021 :: iLD 1 1 :: CALL 19 2 0 55 1086 :: aLD 0 1 :: gR 11 0 7 1021 :: iCONST 0 :: iALD :: iCONST 1 :: iSUB :: iRET :: [] := rfl
theorem ju_21_0 : am_ju 21 0 = iLD 1 1 :: bPUSH 8 :: CALL 12 2 1 31 439 :: IFC 1 6 :: iCONST (-1) :: iRET :: am_ju 21 6 := rfl
theorem ju_21_6 : am_ju 21 6 = aLD 0 1 :: gR 3 3 21 173 :: iLD 1 1 :: iALD :: iST 3 1 :: aLD 0 1 :: gR 3 3 21 173 :: iLD 1 1 :: iLD 2 1 :: iAST :: iLD 3 1 :: iRET :: [] := rfl
theorem ju_22_0 : am_ju 22 0 = aLD 0 1 :: gI 2 7 34 117 :: bPUSH 8 :: ICMP 2 5 :: vRET :: am_ju 22 5 := rfl
theorem ju_22_5 : am_ju 22 5 = aLD 0 1 :: gR 2 1 15 96 :: aLD 0 1 :: gI 2 7 34 117 :: iLD 1 1 :: iAST :: aLD 0 1 :: gR 2 2 18 99 :: aLD 0 1 :: gI 2 7 34 117 :: iLD 2 1 :: iAST :: aLD 0 1 :: gR 2 3 21 102 :: aLD 0 1 :: gI 2 7 34 117 :: iLD 3 1 :: iAST :: aLD 0 1 :: gR 2 4 24 105 :: aLD 0 1 :: gI 2 7 34 117 :: iLD 4 0 :: iAST :: aLD 0 1 :: gR 2 5 27 109 :: aLD 0 1 :: gI 2 7 34 117 :: iLD 5 0 :: iAST :: aLD 0 1 :: DUP :: gI 2 7 34 117 :: iCONST 1 :: iADD :: pI 2 7 34 117 :: vRET :: [] := rfl
theorem ju_23_0 : am_ju 23 0 = aLD 0 1 :: gR 9 2 28 223 :: aLD 0 1 :: gR 9 0 12 216 :: gI 2 7 53 118 :: iCONST 3 :: CALL 21 3 2 56 452 :: POP :: aLD 0 1 :: gR 9 0 12 216 :: iLD 1 1 :: iLD 2 1 :: iLD 3 1 :: iLD 4 0 :: iLD 5 0 :: CALL 22 6 2 60 456 :: aLD 0 1 :: gR 9 3 35 226 :: iCONST 0 :: pI 5 2 50 207 :: vRET :: [] := rfl
theorem ju_24_0 : am_ju 24 0 = iLD 1 1 :: iCONST 1 :: ICMP 2 14 :: iLD 1 1 :: bPUSH 30 :: ICMP 4 14 :: iLD 2 1 :: bPUSH 6 :: CALL 12 2 0 78 428 :: IFC 0 14 :: iLD 3 1 :: bPUSH 6 :: CALL 12 2 0 78 428 :: IFC 1 16 :: am_ju 24 14 := rfl
theorem ju_24_14 : am_ju 24 14 = iCONST (-1) :: iRET :: am_ju 24 16 := rfl
theorem ju_24_16 : am_ju 24 16 = iLD 4 0 :: bPUSH 100 :: CALL 12 2 0 78 428 :: IFC 0 24 :: iLD 5 0 :: iCONST 2 :: CALL 12 2 0 78 428 :: IFC 1 26 :: am_ju 24 24 := rfl
theorem ju_24_24 : am_ju 24 24 = iCONST (-1) :: iRET :: am_ju 24 26 := rfl
theorem ju_24_26 : am_ju 24 26 = aLD 0 1 :: gR 10 0 59 390 :: gR 9 0 82 217 :: gI 2 7 93 119 :: bPUSH 8 :: ICMP 2 34 :: bPUSH (-3) :: iRET :: am_ju 24 34 := rfl
theorem ju_24_34 : am_ju 24 34 = aLD 0 1 :: gR 10 0 59 390 :: iLD 1 1 :: iLD 2 1 :: iLD 3 1 :: iLD 4 0 :: iLD 5 0 :: CALL 23 6 2 96 448 :: aLD 0 1 :: gR 10 0 59 390 :: gR 9 0 82 217 :: gI 2 7 93 119 :: iCONST 1 :: iSUB :: iRET :: [] := rfl
theorem ju_25_0 : am_ju 25 0 = bPUSH 18 :: bPUSH 6 :: iLD 0 1 :: iMUL :: iADD :: iRET :: [] := rfl
set_option maxRecDepth 100000 in
theorem ju_26_0 : am_ju 26 0 = iLD 1 1 :: iCONST 1 :: bPUSH 30 :: CALL 17 3 0 47 1083 :: IFC 0 25 :: iLD 2 1 :: iCONST 0 :: iCONST 5 :: CALL 17 3 0 47 1083 :: IFC 0 25 :: iLD 3 1 :: iCONST 0 :: iCONST 5 :: CALL 17 3 0 47 1083 :: IFC 0 25 :: iLD 4 0 :: iCONST 0 :: bPUSH 99 :: CALL 17 3 0 47 1083 :: IFC 0 25 :: iLD 5 0 :: iCONST 0 :: iCONST 1 :: CALL 17 3 0 47 1083 :: IFC 1 27 :: am_ju 26 25 := rfl
set_option maxRecDepth 100000 in
theorem ju_26_25 : am_ju 26 25 = iCONST (-1) :: iRET :: am_ju 26 27 := rfl
set_option maxRecDepth 100000 in
theorem ju_26_27 : am_ju 26 27 = aLD 0 1 :: gR 11 0 7 1021 :: iCONST 1 :: iALD :: bPUSH 8 :: ICMP 1 35 :: bPUSH (-3) :: iRET :: am_ju 26 35 := rfl
set_option maxRecDepth 100000 in
theorem ju_26_35 : am_ju 26 35 = aLD 0 1 :: gR 11 0 7 1021 :: iCONST 1 :: iALD :: CALL 25 1 0 59 1096 :: iST 6 0 :: aLD 0 1 :: gR 11 0 7 1021 :: iLD 6 0 :: iCONST 0 :: iADD :: iLD 1 1 :: iAST :: aLD 0 1 :: gR 11 0 7 1021 :: iLD 6 0 :: iCONST 1 :: iADD :: iLD 2 1 :: iAST :: aLD 0 1 :: gR 11 0 7 1021 :: iLD 6 0 :: iCONST 2 :: iADD :: iLD 3 1 :: iAST :: aLD 0 1 :: gR 11 0 7 1021 :: iLD 6 0 :: iCONST 3 :: iADD :: iLD 4 0 :: iAST :: aLD 0 1 :: gR 11 0 7 1021 :: iLD 6 0 :: iCONST 4 :: iADD :: iLD 5 0 :: iAST :: aLD 0 1 :: gR 11 0 7 1021 :: iLD 6 0 :: iCONST 5 :: iADD :: iCONST 3 :: iAST :: aLD 0 1 :: gR 11 0 7 1021 :: iCONST 1 :: DUP2 :: iALD :: iCONST 1 :: iADD :: iAST :: aLD 0 1 :: gR 11 0 7 1021 :: iCONST 5 :: iCONST 0 :: iAST :: aLD 0 1 :: gR 11 0 7 1021 :: iCONST 1 :: iALD :: iCONST 1 :: iSUB :: iRET :: [] := rfl
theorem ju_27_0 : am_ju 27 0 = iLD 1 1 :: aLD 0 1 :: gI 2 7 34 117 :: CALL 12 2 1 37 468 :: zRET :: [] := rfl
theorem ju_28_0 : am_ju 28 0 = iLD 1 1 :: aLD 0 1 :: gI 2 6 30 112 :: CALL 12 2 1 37 468 :: zRET :: [] := rfl
theorem ju_29_0 : am_ju 29 0 = iLD 0 1 :: iLD 1 1 :: iSHR :: iCONST 1 :: iAND :: IFC 0 8 :: iCONST 1 :: GOTO 9 :: am_ju 29 8 := rfl
theorem ju_29_8 : am_ju 29 8 = iCONST 0 :: am_ju 29 9 := rfl
theorem ju_29_9 : am_ju 29 9 = zRET :: [] := rfl
theorem ju_30_0 : am_ju 30 0 = iLD 0 1 :: iCONST 0 :: CALL 29 2 0 354 476 :: IFC 1 9 :: iLD 0 1 :: bPUSH 6 :: iAND :: bPUSH 6 :: ICMP 1 11 :: am_ju 30 9 := rfl
theorem ju_30_9 : am_ju 30 9 = iCONST 1 :: GOTO 12 :: am_ju 30 11 := rfl
theorem ju_30_11 : am_ju 30 11 = iCONST 0 :: am_ju 30 12 := rfl
theorem ju_30_12 : am_ju 30 12 = zRET :: [] := rfl
theorem ju_31_0 : am_ju 31 0 = aLD 0 1 :: gR 10 0 59 390 :: gR 9 0 82 217 :: iLD 1 1 :: CALL 27 2 2 100 464 :: IFC 0 12 :: aLD 0 1 :: gR 10 0 59 390 :: gR 9 0 82 217 :: iLD 2 1 :: CALL 28 2 2 104 469 :: IFC 1 14 :: am_ju 31 12 := rfl
theorem ju_31_12 : am_ju 31 12 = iCONST (-1) :: iRET :: am_ju 31 14 := rfl
theorem ju_31_14 : am_ju 31 14 = aLD 0 1 :: gR 10 0 59 390 :: gR 9 2 107 225 :: gR 3 2 111 171 :: iLD 2 1 :: iALD :: CALL 30 1 0 116 473 :: IFC 0 24 :: bPUSH (-2) :: iRET :: am_ju 31 24 := rfl
theorem ju_31_24 : am_ju 31 24 = aLD 0 1 :: gR 10 0 59 390 :: gR 9 2 107 225 :: iLD 1 1 :: iLD 2 1 :: CALL 21 3 2 119 479 :: iRET :: [] := rfl
theorem ju_32_0 : am_ju 32 0 = iLD 1 1 :: iCONST 0 :: aLD 0 1 :: gR 11 0 7 1021 :: iCONST 1 :: iALD :: iCONST 1 :: iSUB :: CALL 17 3 0 47 1083 :: zRET :: [] := rfl
theorem ju_33_0 : am_ju 33 0 = iLD 1 1 :: iCONST 0 :: aLD 0 1 :: gR 11 0 7 1021 :: iCONST 0 :: iALD :: iCONST 1 :: iSUB :: CALL 17 3 0 47 1083 :: zRET :: [] := rfl
theorem ju_34_0 : am_ju 34 0 = iLD 0 1 :: iLD 1 1 :: iSHR :: iCONST 1 :: iAND :: iCONST 1 :: ICMP 1 9 :: iCONST 1 :: GOTO 10 :: am_ju 34 9 := rfl
theorem ju_34_9 : am_ju 34 9 = iCONST 0 :: am_ju 34 10 := rfl
theorem ju_34_10 : am_ju 34 10 = zRET :: [] := rfl
theorem ju_35_0 : am_ju 35 0 = aLD 0 1 :: gR 11 0 7 1021 :: iLD 1 1 :: CALL 18 1 0 51 1089 :: iCONST 3 :: iADD :: iALD :: iST 2 1 :: iLD 2 1 :: iCONST 0 :: CALL 34 2 0 62 1115 :: IFC 1 20 :: iLD 2 1 :: iCONST 1 :: CALL 34 2 0 62 1115 :: IFC 0 22 :: iLD 2 1 :: iCONST 2 :: CALL 34 2 0 62 1115 :: IFC 0 22 :: am_ju 35 20 := rfl
theorem ju_35_20 : am_ju 35 20 = iCONST 1 :: GOTO 23 :: am_ju 35 22 := rfl
theorem ju_35_22 : am_ju 35 22 = iCONST 0 :: am_ju 35 23 := rfl
theorem ju_35_23 : am_ju 35 23 = zRET :: [] := rfl
theorem ju_36_0 : am_ju 36 0 = aLD 0 1 :: iLD 1 1 :: CALL 32 2 2 66 1103 :: IFC 0 8 :: aLD 0 1 :: iLD 2 1 :: CALL 33 2 2 70 1107 :: IFC 1 10 :: am_ju 36 8 := rfl
theorem ju_36_8 : am_ju 36 8 = iCONST (-1) :: iRET :: am_ju 36 10 := rfl
theorem ju_36_10 : am_ju 36 10 = aLD 0 1 :: iLD 2 1 :: CALL 35 2 2 73 1111 :: IFC 0 16 :: bPUSH (-2) :: iRET :: am_ju 36 16 := rfl
theorem ju_36_16 : am_ju 36 16 = aLD 0 1 :: gR 11 0 7 1021 :: iLD 1 1 :: CALL 25 1 0 59 1096 :: iCONST 5 :: iADD :: iALD :: iST 3 1 :: aLD 0 1 :: gR 11 0 7 1021 :: iLD 1 1 :: CALL 25 1 0 59 1096 :: iCONST 5 :: iADD :: iLD 2 1 :: iAST :: iLD 3 1 :: iRET :: [] := rfl
theorem ju_37_0 : am_ju 37 0 = aLD 0 1 :: gR 10 0 59 390 :: gR 9 0 82 217 :: iLD 1 1 :: CALL 27 2 2 100 464 :: IFC 1 8 :: iCONST (-1) :: iRET :: am_ju 37 8 := rfl
theorem ju_37_8 : am_ju 37 8 = aLD 0 1 :: gR 10 0 59 390 :: gR 9 2 107 225 :: iLD 1 1 :: iCONST 3 :: CALL 21 3 2 119 479 :: iRET :: [] := rfl
theorem ju_38_0 : am_ju 38 0 = aLD 0 1 :: iLD 1 1 :: CALL 32 2 2 66 1103 :: IFC 1 6 :: iCONST (-1) :: iRET :: am_ju 38 6 := rfl
theorem ju_38_6 : am_ju 38 6 = aLD 0 1 :: gR 11 0 7 1021 :: iLD 1 1 :: CALL 25 1 0 59 1096 :: iCONST 5 :: iADD :: iALD :: iST 2 1 :: aLD 0 1 :: gR 11 0 7 1021 :: iLD 1 1 :: CALL 25 1 0 59 1096 :: iCONST 5 :: iADD :: iCONST 3 :: iAST :: iLD 2 1 :: iRET :: [] := rfl
theorem ju_39_0 : am_ju 39 0 = iCONST 0 :: iST 2 1 :: iCONST 0 :: iST 3 1 :: am_ju 39 4 := rfl
theorem ju_39_4 : am_ju 39 4 = iLD 3 1 :: aLD 0 1 :: gR 9 0 12 216 :: gI 2 7 53 118 :: ICMP 3 24 :: aLD 0 1 :: gR 9 2 28 223 :: gR 3 3 74 174 :: iLD 3 1 :: iALD :: iLD 1 1 :: ICMP 1 22 :: iLD 2 1 :: iCONST 1 :: iLD 3 1 :: iSHL :: iOR :: iST 2 1 :: am_ju 39 22 := rfl
theorem ju_39_22 : am_ju 39 22 = IINC 3 1 :: GOTO 4 :: am_ju 39 24 := rfl
theorem ju_39_24 : am_ju 39 24 = iLD 2 1 :: iRET :: [] := rfl
theorem ju_40_0 : am_ju 40 0 = iCONST 0 :: iST 2 1 :: iCONST 0 :: iST 3 1 :: am_ju 40 4 := rfl
theorem ju_40_4 : am_ju 40 4 = iLD 3 1 :: aLD 0 1 :: aLEN :: ICMP 3 20 :: iLD 1 1 :: iLD 3 1 :: CALL 29 2 0 354 476 :: IFC 0 18 :: iLD 2 1 :: aLD 0 1 :: iLD 3 1 :: iALD :: iADD :: iST 2 1 :: am_ju 40 18 := rfl
theorem ju_40_18 : am_ju 40 18 = IINC 3 1 :: GOTO 4 :: am_ju 40 20 := rfl
theorem ju_40_20 : am_ju 40 20 = iLD 2 1 :: iRET :: [] := rfl
theorem ju_41_0 : am_ju 41 0 = aLD 0 1 :: iLD 2 1 :: pI 0 4 24 257 :: aLD 0 1 :: aLD 1 1 :: gR 2 1 36 97 :: iLD 2 1 :: CALL 40 2 1 41 501 :: pI 0 5 27 259 :: aLD 0 1 :: aLD 1 1 :: gR 2 2 45 100 :: iLD 2 1 :: CALL 40 2 1 41 501 :: pI 0 6 30 261 :: aLD 0 1 :: aLD 1 1 :: gR 2 3 47 103 :: iLD 2 1 :: CALL 40 2 1 41 501 :: pI 0 7 33 262 :: vRET :: [] := rfl
theorem ju_42_0 : am_ju 42 0 = aLD 0 1 :: gR 9 0 12 216 :: iLD 2 1 :: CALL 28 2 2 120 496 :: IFC 1 6 :: vRET :: am_ju 42 6 := rfl
theorem ju_42_6 : am_ju 42 6 = aLD 1 1 :: aLD 0 1 :: gR 9 0 12 216 :: gR 2 0 123 95 :: iLD 2 1 :: iALD :: pI 0 0 126 246 :: aLD 1 1 :: aLD 0 1 :: gR 9 2 28 223 :: gR 3 0 130 166 :: iLD 2 1 :: iALD :: pI 0 1 133 249 :: aLD 1 1 :: aLD 0 1 :: gR 9 2 28 223 :: gR 3 1 135 169 :: iLD 2 1 :: iALD :: pI 0 2 138 253 :: aLD 1 1 :: aLD 0 1 :: gR 9 2 28 223 :: gR 3 2 114 172 :: iLD 2 1 :: iALD :: pI 0 3 140 256 :: aLD 1 1 :: aLD 0 1 :: gR 9 0 12 216 :: iLD 3 1 :: CALL 41 3 2 142 497 :: vRET :: [] := rfl
theorem ju_43_0 : am_ju 43 0 = aLD 0 1 :: gI 0 1 15 247 :: aLD 0 1 :: gI 0 2 18 251 :: iADD :: bPUSH 10 :: iDIV :: iRET :: [] := rfl
theorem ju_44_0 : am_ju 44 0 = aLD 0 1 :: gR 10 0 59 390 :: gR 9 0 82 217 :: iLD 1 1 :: CALL 28 2 2 104 469 :: IFC 1 8 :: iCONST (-1) :: iRET :: am_ju 44 8 := rfl
theorem ju_44_8 : am_ju 44 8 = aLD 0 1 :: gR 10 0 59 390 :: aLD 0 1 :: gR 10 5 23 395 :: iLD 1 1 :: aLD 0 1 :: gR 10 0 59 390 :: iLD 1 1 :: CALL 39 2 2 123 488 :: CALL 42 4 2 127 492 :: iLD 2 1 :: TSW [0, 6, 48, 20, 24, 28, 32, 36, 40, 44] :: am_ju 44 20 := rfl
theorem ju_44_20 : am_ju 44 20 = aLD 0 1 :: gR 10 5 23 395 :: gI 0 0 131 245 :: iRET :: am_ju 44 24 := rfl
theorem ju_44_24 : am_ju 44 24 = aLD 0 1 :: gR 10 5 23 395 :: gI 0 1 134 248 :: iRET :: am_ju 44 28 := rfl
theorem ju_44_28 : am_ju 44 28 = aLD 0 1 :: gR 10 5 23 395 :: gI 0 2 137 252 :: iRET :: am_ju 44 32 := rfl
theorem ju_44_32 : am_ju 44 32 = aLD 0 1 :: gR 10 5 23 395 :: gI 0 3 140 255 :: iRET :: am_ju 44 36 := rfl
theorem ju_44_36 : am_ju 44 36 = aLD 0 1 :: gR 10 5 23 395 :: gI 0 4 142 258 :: iRET :: am_ju 44 40 := rfl
theorem ju_44_40 : am_ju 44 40 = aLD 0 1 :: gR 10 5 23 395 :: gI 0 5 143 260 :: iRET :: am_ju 44 44 := rfl
theorem ju_44_44 : am_ju 44 44 = aLD 0 1 :: gR 10 5 23 395 :: CALL 43 1 2 146 504 :: iRET :: am_ju 44 48 := rfl
theorem ju_44_48 : am_ju 44 48 = iCONST (-1) :: iRET :: [] := rfl
theorem ju_45_0 : am_ju 45 0 = iCONST 0 :: iST 2 1 :: iCONST 0 :: iST 3 1 :: am_ju 45 4 := rfl
theorem ju_45_4 : am_ju 45 4 = iLD 3 1 :: aLD 0 1 :: iCONST 1 :: iALD :: ICMP 3 27 :: iLD 2 1 :: aLD 0 1 :: iLD 3 1 :: CALL 25 1 0 59 1096 :: iCONST 5 :: iADD :: iALD :: iLD 1 1 :: ICMP 1 22 :: iCONST 1 :: iLD 3 1 :: iSHL :: GOTO 23 :: am_ju 45 22 := rfl
theorem ju_45_22 : am_ju 45 22 = iCONST 0 :: am_ju 45 23 := rfl
theorem ju_45_23 : am_ju 45 23 = iOR :: iST 2 1 :: IINC 3 1 :: GOTO 4 :: am_ju 45 27 := rfl
theorem ju_45_27 : am_ju 45 27 = iLD 2 1 :: iRET :: [] := rfl
theorem ju_46_0 : am_ju 46 0 = iCONST 0 :: iST 3 1 :: iCONST 0 :: iST 4 0 :: am_ju 46 4 := rfl
theorem ju_46_4 : am_ju 46 4 = iLD 4 0 :: aLD 0 1 :: iCONST 1 :: iALD :: ICMP 3 30 :: iLD 3 1 :: aLD 0 1 :: iLD 4 0 :: CALL 25 1 0 59 1096 :: iCONST 5 :: iADD :: iALD :: iLD 1 1 :: ICMP 1 25 :: aLD 0 1 :: iLD 4 0 :: CALL 25 1 0 59 1096 :: iLD 2 1 :: iADD :: iALD :: GOTO 26 :: am_ju 46 25 := rfl
theorem ju_46_25 : am_ju 46 25 = iCONST 0 :: am_ju 46 26 := rfl
theorem ju_46_26 : am_ju 46 26 = iADD :: iST 3 1 :: IINC 4 1 :: GOTO 4 :: am_ju 46 30 := rfl
theorem ju_46_30 : am_ju 46 30 = iLD 3 1 :: iRET :: [] := rfl
theorem ju_47_0 : am_ju 47 0 = aLD 0 1 :: iLD 1 1 :: CALL 18 1 0 51 1089 :: iCONST 1 :: iADD :: iALD :: aLD 0 1 :: iLD 1 1 :: CALL 18 1 0 51 1089 :: iCONST 2 :: iADD :: iALD :: iADD :: bPUSH 10 :: iDIV :: iRET :: [] := rfl
theorem ju_48_0 : am_ju 48 0 = aLD 0 1 :: iLD 1 1 :: CALL 33 2 2 70 1107 :: IFC 0 9 :: iLD 2 1 :: iCONST 0 :: bPUSH 6 :: CALL 17 3 0 47 1083 :: IFC 1 11 :: am_ju 48 9 := rfl
theorem ju_48_9 : am_ju 48 9 = iCONST (-1) :: iRET :: am_ju 48 11 := rfl
theorem ju_48_11 : am_ju 48 11 = iLD 2 1 :: iCONST 4 :: ICMP 3 22 :: aLD 0 1 :: gR 11 0 7 1021 :: iLD 1 1 :: CALL 18 1 0 51 1089 :: iLD 2 1 :: iADD :: iALD :: GOTO 43 :: am_ju 48 22 := rfl
theorem ju_48_22 : am_ju 48 22 = iLD 2 1 :: iCONST 4 :: ICMP 1 30 :: aLD 0 1 :: gR 11 0 7 1021 :: iLD 1 1 :: CALL 45 2 0 76 1126 :: GOTO 43 :: am_ju 48 30 := rfl
theorem ju_48_30 : am_ju 48 30 = iLD 2 1 :: iCONST 5 :: ICMP 1 39 :: aLD 0 1 :: gR 11 0 7 1021 :: iLD 1 1 :: iCONST 0 :: CALL 46 3 0 80 1129 :: GOTO 43 :: am_ju 48 39 := rfl
theorem ju_48_39 : am_ju 48 39 = aLD 0 1 :: gR 11 0 7 1021 :: iLD 1 1 :: CALL 47 2 0 84 1132 :: am_ju 48 43 := rfl
theorem ju_48_43 : am_ju 48 43 = iRET :: [] := rfl
theorem ju_49_0 : am_ju 49 0 = iLD 1 1 :: IFC 1 12 :: bPUSH 90 :: aLD 0 1 :: gI 0 2 18 251 :: iSUB :: iCONST 2 :: aLD 0 1 :: gI 0 1 15 247 :: iMUL :: iSUB :: iRET :: am_ju 49 12 := rfl
theorem ju_49_12 : am_ju 49 12 = iLD 1 1 :: iCONST 3 :: ICMP 1 23 :: bPUSH 90 :: aLD 0 1 :: gI 0 2 18 251 :: iSUB :: aLD 0 1 :: gI 0 1 15 247 :: iSUB :: iRET :: am_ju 49 23 := rfl
theorem ju_49_23 : am_ju 49 23 = bPUSH 60 :: aLD 0 1 :: gI 0 2 18 251 :: iSUB :: aLD 0 1 :: gI 0 1 15 247 :: iSUB :: iRET :: [] := rfl
theorem ju_50_0 : am_ju 50 0 = iLD 1 1 :: iCONST 3 :: ICMP 1 5 :: bPUSH 50 :: GOTO 6 :: am_ju 50 5 := rfl
theorem ju_50_5 : am_ju 50 5 = bPUSH 70 :: am_ju 50 6 := rfl
theorem ju_50_6 : am_ju 50 6 = iCONST 2 :: aLD 0 1 :: gI 0 2 18 251 :: iMUL :: iSUB :: iRET :: [] := rfl
theorem ju_51_0 : am_ju 51 0 = aLD 0 1 :: gI 0 0 9 243 :: TSW [0, 2, 23, 3, 9, 17] :: am_ju 51 3 := rfl
theorem ju_51_3 : am_ju 51 3 = iCONST 0 :: aLD 0 1 :: iLD 1 1 :: CALL 49 2 2 49 516 :: MMAX 53 520 :: iRET :: am_ju 51 9 := rfl
theorem ju_51_9 : am_ju 51 9 = iCONST 0 :: aLD 0 1 :: iLD 1 1 :: CALL 49 2 2 49 516 :: bPUSH 40 :: iADD :: MMAX 53 520 :: iRET :: am_ju 51 17 := rfl
theorem ju_51_17 : am_ju 51 17 = iCONST 0 :: aLD 0 1 :: iLD 1 1 :: CALL 50 2 2 59 523 :: MMAX 53 520 :: iRET :: am_ju 51 23 := rfl
theorem ju_51_23 : am_ju 51 23 = iCONST 0 :: aLD 0 1 :: iLD 1 1 :: CALL 50 2 2 59 523 :: aLD 0 1 :: gI 0 2 18 251 :: iADD :: bPUSH 30 :: iADD :: MMAX 53 520 :: iRET :: [] := rfl
theorem ju_52_0 : am_ju 52 0 = aLD 0 1 :: gR 10 0 59 390 :: gR 9 0 82 217 :: iLD 1 1 :: CALL 28 2 2 104 469 :: IFC 0 10 :: iLD 2 1 :: iCONST 4 :: CALL 12 2 0 78 428 :: IFC 1 12 :: am_ju 52 10 := rfl
theorem ju_52_10 : am_ju 52 10 = iCONST (-1) :: iRET :: am_ju 52 12 := rfl
theorem ju_52_12 : am_ju 52 12 = aLD 0 1 :: gR 10 0 59 390 :: aLD 0 1 :: gR 10 5 23 395 :: iLD 1 1 :: aLD 0 1 :: gR 10 0 59 390 :: iLD 1 1 :: CALL 39 2 2 123 488 :: CALL 42 4 2 127 492 :: aLD 0 1 :: gR 10 5 23 395 :: iLD 2 1 :: CALL 51 2 2 150 512 :: iRET :: [] := rfl
set_option maxRecDepth 100000 in
theorem ju_53_0 : am_ju 53 0 = iLD 1 1 :: CALL 18 1 0 51 1089 :: iST 3 1 :: aLD 0 1 :: iLD 3 1 :: iCONST 0 :: iADD :: iALD :: iST 4 0 :: iLD 4 0 :: iCONST 1 :: ICMP 4 53 :: bPUSH 90 :: aLD 0 1 :: iLD 3 1 :: iCONST 2 :: iADD :: iALD :: iSUB :: iLD 2 1 :: IFC 1 23 :: iCONST 2 :: GOTO 24 :: am_ju 53 23 := rfl
set_option maxRecDepth 100000 in
theorem ju_53_23 : am_ju 53 23 = iCONST 1 :: am_ju 53 24 := rfl
set_option maxRecDepth 100000 in
theorem ju_53_24 : am_ju 53 24 = aLD 0 1 :: iLD 3 1 :: iCONST 1 :: iADD :: iALD :: iMUL :: iSUB :: iST 5 0 :: iLD 5 0 :: iLD 2 1 :: iCONST 1 :: iCONST 2 :: CALL 17 3 0 47 1083 :: IFC 0 40 :: bPUSH 30 :: GOTO 41 :: am_ju 53 40 := rfl
set_option maxRecDepth 100000 in
theorem ju_53_40 : am_ju 53 40 = iCONST 0 :: am_ju 53 41 := rfl
set_option maxRecDepth 100000 in
theorem ju_53_41 : am_ju 53 41 = iSUB :: iST 5 0 :: iLD 5 0 :: iLD 4 0 :: iCONST 1 :: ICMP 1 49 :: bPUSH 40 :: GOTO 50 :: am_ju 53 49 := rfl
set_option maxRecDepth 100000 in
theorem ju_53_49 : am_ju 53 49 = iCONST 0 :: am_ju 53 50 := rfl
set_option maxRecDepth 100000 in
theorem ju_53_50 : am_ju 53 50 = iADD :: iST 5 0 :: GOTO 85 :: am_ju 53 53 := rfl
set_option maxRecDepth 100000 in
theorem ju_53_53 : am_ju 53 53 = bPUSH 70 :: iCONST 2 :: aLD 0 1 :: iLD 3 1 :: iCONST 2 :: iADD :: iALD :: iMUL :: iSUB :: iLD 2 1 :: iCONST 3 :: ICMP 1 67 :: bPUSH 20 :: GOTO 68 :: am_ju 53 67 := rfl
set_option maxRecDepth 100000 in
theorem ju_53_67 : am_ju 53 67 = iCONST 0 :: am_ju 53 68 := rfl
set_option maxRecDepth 100000 in
theorem ju_53_68 : am_ju 53 68 = iSUB :: iST 5 0 :: iLD 5 0 :: iLD 4 0 :: iCONST 3 :: ICMP 1 82 :: aLD 0 1 :: iLD 3 1 :: iCONST 2 :: iADD :: iALD :: bPUSH 30 :: iADD :: GOTO 83 :: am_ju 53 82 := rfl
set_option maxRecDepth 100000 in
theorem ju_53_82 : am_ju 53 82 = iCONST 0 :: am_ju 53 83 := rfl
set_option maxRecDepth 100000 in
theorem ju_53_83 : am_ju 53 83 = iADD :: iST 5 0 :: am_ju 53 85 := rfl
set_option maxRecDepth 100000 in
theorem ju_53_85 : am_ju 53 85 = iLD 5 0 :: IFC 3 89 :: iCONST 0 :: GOTO 90 :: am_ju 53 89 := rfl
set_option maxRecDepth 100000 in
theorem ju_53_89 : am_ju 53 89 = iLD 5 0 :: am_ju 53 90 := rfl
set_option maxRecDepth 100000 in
theorem ju_53_90 : am_ju 53 90 = iRET :: [] := rfl
theorem ju_54_0 : am_ju 54 0 = aLD 0 1 :: iLD 1 1 :: CALL 33 2 2 70 1107 :: IFC 0 15 :: iLD 2 1 :: iCONST 0 :: iCONST 3 :: CALL 17 3 0 47 1083 :: IFC 0 15 :: aLD 0 1 :: gR 11 0 7 1021 :: iLD 1 1 :: iLD 2 1 :: CALL 53 3 0 87 1139 :: GOTO 16 :: am_ju 54 15 := rfl
theorem ju_54_15 : am_ju 54 15 = iCONST (-1) :: am_ju 54 16 := rfl
theorem ju_54_16 : am_ju 54 16 = iRET :: [] := rfl
theorem ju_55_0 : am_ju 55 0 = iLD 0 1 :: iLD 0 1 :: iCONST 1 :: iUSHR :: LDCW 1431655765 265 538 :: iAND :: iSUB :: iST 0 1 :: iLD 0 1 :: LDCW 858993459 266 539 :: iAND :: iLD 0 1 :: iCONST 2 :: iUSHR :: LDCW 858993459 266 539 :: iAND :: iADD :: iST 0 1 :: iLD 0 1 :: iLD 0 1 :: iCONST 4 :: iUSHR :: iADD :: LDCW 252645135 267 540 :: iAND :: iST 0 1 :: iLD 0 1 :: iLD 0 1 :: bPUSH 8 :: iUSHR :: iADD :: iST 0 1 :: iLD 0 1 :: iLD 0 1 :: bPUSH 16 :: iUSHR :: iADD :: iST 0 1 :: iLD 0 1 :: bPUSH 63 :: iAND :: iRET :: [] := rfl
theorem ju_56_0 : am_ju 56 0 = iLD 1 1 :: iCONST 3 :: ICMP 1 8 :: iCONST 3 :: aLD 0 1 :: gI 0 7 33 262 :: iMUL :: iRET :: am_ju 56 8 := rfl
theorem ju_56_8 : am_ju 56 8 = aLD 0 1 :: gI 0 5 27 259 :: bPUSH 10 :: iLD 2 1 :: iADD :: iMUL :: bPUSH 10 :: iDIV :: iST 3 1 :: iLD 1 1 :: IFC 1 21 :: iLD 3 1 :: iRET :: am_ju 56 21 := rfl
theorem ju_56_21 : am_ju 56 21 = iCONST 2 :: aLD 0 1 :: gI 0 3 21 254 :: bPUSH 6 :: iAND :: CALL 55 1 0 62 535 :: iSUB :: iST 4 0 :: iLD 4 0 :: IFC 4 33 :: iCONST 0 :: GOTO 36 :: am_ju 56 33 := rfl
theorem ju_56_33 : am_ju 56 33 = iLD 3 1 :: iLD 4 0 :: iDIV :: am_ju 56 36 := rfl
theorem ju_56_36 : am_ju 56 36 = iRET :: [] := rfl
theorem ju_57_0 : am_ju 57 0 = aLD 0 1 :: gR 10 0 59 390 :: gR 9 0 82 217 :: iLD 1 1 :: CALL 28 2 2 104 469 :: IFC 0 14 :: iLD 2 1 :: iCONST 4 :: CALL 12 2 0 78 428 :: IFC 0 14 :: iLD 3 1 :: bPUSH 8 :: CALL 12 2 0 78 428 :: IFC 1 16 :: am_ju 57 14 := rfl
theorem ju_57_14 : am_ju 57 14 = iCONST (-1) :: iRET :: am_ju 57 16 := rfl
theorem ju_57_16 : am_ju 57 16 = aLD 0 1 :: gR 10 0 59 390 :: aLD 0 1 :: gR 10 5 23 395 :: iLD 1 1 :: aLD 0 1 :: gR 10 0 59 390 :: iLD 1 1 :: CALL 39 2 2 123 488 :: CALL 42 4 2 127 492 :: aLD 0 1 :: gR 10 5 23 395 :: iLD 2 1 :: iLD 3 1 :: CALL 56 3 2 153 531 :: iRET :: [] := rfl
theorem ju_58_0 : am_ju 58 0 = iLD 2 1 :: iCONST 3 :: ICMP 1 10 :: iCONST 3 :: aLD 0 1 :: iLD 1 1 :: iCONST 2 :: CALL 46 3 0 80 1129 :: iMUL :: iRET :: am_ju 58 10 := rfl
theorem ju_58_10 : am_ju 58 10 = aLD 0 1 :: iLD 1 1 :: iCONST 0 :: CALL 46 3 0 80 1129 :: bPUSH 10 :: iLD 3 1 :: iADD :: iMUL :: bPUSH 10 :: iDIV :: iST 4 0 :: aLD 0 1 :: iLD 1 1 :: CALL 18 1 0 51 1089 :: iCONST 3 :: iADD :: iALD :: iST 5 0 :: iLD 5 0 :: iCONST 1 :: CALL 34 2 0 62 1115 :: IFC 0 34 :: iCONST 0 :: GOTO 35 :: am_ju 58 34 := rfl
theorem ju_58_34 : am_ju 58 34 = iCONST 1 :: am_ju 58 35 := rfl
theorem ju_58_35 : am_ju 58 35 = iLD 5 0 :: iCONST 2 :: CALL 34 2 0 62 1115 :: IFC 0 41 :: iCONST 0 :: GOTO 42 :: am_ju 58 41 := rfl
theorem ju_58_41 : am_ju 58 41 = iCONST 1 :: am_ju 58 42 := rfl
theorem ju_58_42 : am_ju 58 42 = iADD :: iST 6 0 :: iLD 2 1 :: IFC 1 48 :: iLD 4 0 :: GOTO 55 :: am_ju 58 48 := rfl
theorem ju_58_48 : am_ju 58 48 = iLD 6 0 :: IFC 1 52 :: iCONST 0 :: GOTO 55 :: am_ju 58 52 := rfl
theorem ju_58_52 : am_ju 58 52 = iLD 4 0 :: iLD 6 0 :: iDIV :: am_ju 58 55 := rfl
theorem ju_58_55 : am_ju 58 55 = iRET :: [] := rfl
theorem ju_59_0 : am_ju 59 0 = aLD 0 1 :: iLD 1 1 :: CALL 33 2 2 70 1107 :: IFC 0 21 :: iLD 2 1 :: iCONST 0 :: iCONST 3 :: CALL 17 3 0 47 1083 :: IFC 0 21 :: iLD 3 1 :: iCONST 0 :: bPUSH 7 :: CALL 17 3 0 47 1083 :: IFC 0 21 :: aLD 0 1 :: gR 11 0 7 1021 :: iLD 1 1 :: iLD 2 1 :: iLD 3 1 :: CALL 58 4 0 90 1146 :: GOTO 22 :: am_ju 59 21 := rfl
theorem ju_59_21 : am_ju 59 21 = iCONST (-1) :: am_ju 59 22 := rfl
theorem ju_59_22 : am_ju 59 22 = iRET :: [] := rfl
theorem ju_60_0 : am_ju 60 0 = aLD 0 1 :: gR 10 0 59 390 :: gR 9 0 82 217 :: aST 3 1 :: aLD 3 1 :: iLD 1 1 :: CALL 27 2 2 100 464 :: IFC 1 10 :: iCONST (-1) :: iRET :: am_ju 60 10 := rfl
theorem ju_60_10 : am_ju 60 10 = iLD 2 1 :: TSW [0, 5, 44, 12, 17, 22, 27, 32, 37] :: am_ju 60 12 := rfl
theorem ju_60_12 : am_ju 60 12 = aLD 3 1 :: gR 2 1 156 98 :: iLD 1 1 :: iALD :: iRET :: am_ju 60 17 := rfl
theorem ju_60_17 : am_ju 60 17 = aLD 3 1 :: gR 2 2 158 101 :: iLD 1 1 :: iALD :: iRET :: am_ju 60 22 := rfl
theorem ju_60_22 : am_ju 60 22 = aLD 3 1 :: gR 2 3 161 104 :: iLD 1 1 :: iALD :: iRET :: am_ju 60 27 := rfl
theorem ju_60_27 : am_ju 60 27 = aLD 3 1 :: gR 2 4 164 107 :: iLD 1 1 :: iALD :: iRET :: am_ju 60 32 := rfl
theorem ju_60_32 : am_ju 60 32 = aLD 3 1 :: gR 2 5 167 110 :: iLD 1 1 :: iALD :: iRET :: am_ju 60 37 := rfl
theorem ju_60_37 : am_ju 60 37 = aLD 0 1 :: gR 10 0 59 390 :: gR 9 2 107 225 :: gR 3 3 170 175 :: iLD 1 1 :: iALD :: iRET :: am_ju 60 44 := rfl
theorem ju_60_44 : am_ju 60 44 = iCONST (-1) :: iRET :: [] := rfl
theorem ju_61_0 : am_ju 61 0 = aLD 0 1 :: iLD 1 1 :: CALL 32 2 2 66 1103 :: IFC 0 17 :: iLD 2 1 :: iCONST 0 :: iCONST 5 :: CALL 17 3 0 47 1083 :: IFC 0 17 :: aLD 0 1 :: gR 11 0 7 1021 :: iLD 1 1 :: CALL 25 1 0 59 1096 :: iLD 2 1 :: iADD :: iALD :: GOTO 18 :: am_ju 61 17 := rfl
theorem ju_61_17 : am_ju 61 17 = iCONST (-1) :: am_ju 61 18 := rfl
theorem ju_61_18 : am_ju 61 18 = iRET :: [] := rfl
theorem ju_62_0 : am_ju 62 0 = aLD 0 1 :: gR 10 0 59 390 :: gR 9 0 82 217 :: iLD 1 1 :: CALL 28 2 2 104 469 :: IFC 0 14 :: iLD 2 1 :: iCONST 2 :: CALL 12 2 0 78 428 :: IFC 0 14 :: iLD 3 1 :: sPUSH 1000 :: CALL 12 2 0 78 428 :: IFC 1 16 :: am_ju 62 14 := rfl
theorem ju_62_14 : am_ju 62 14 = iCONST (-1) :: iRET :: am_ju 62 16 := rfl
theorem ju_62_16 : am_ju 62 16 = iLD 2 1 :: IFC 1 23 :: aLD 0 1 :: gR 10 0 59 390 :: gR 9 2 107 225 :: gR 3 0 173 165 :: GOTO 27 :: am_ju 62 23 := rfl
theorem ju_62_23 : am_ju 62 23 = aLD 0 1 :: gR 10 0 59 390 :: gR 9 2 107 225 :: gR 3 1 175 168 :: am_ju 62 27 := rfl
theorem ju_62_27 : am_ju 62 27 = aST 4 0 :: aLD 4 0 :: iLD 1 1 :: iALD :: iST 5 0 :: aLD 4 0 :: iLD 1 1 :: iLD 3 1 :: iAST :: iLD 5 0 :: iRET :: [] := rfl
theorem ju_63_0 : am_ju 63 0 = aLD 0 1 :: iLD 1 1 :: CALL 33 2 2 70 1107 :: IFC 0 14 :: iLD 2 1 :: iCONST 0 :: iCONST 1 :: CALL 17 3 0 47 1083 :: IFC 0 14 :: iLD 3 1 :: iCONST 0 :: sPUSH 999 :: CALL 17 3 0 47 1083 :: IFC 1 16 :: am_ju 63 14 := rfl
theorem ju_63_14 : am_ju 63 14 = iCONST (-1) :: iRET :: am_ju 63 16 := rfl
theorem ju_63_16 : am_ju 63 16 = aLD 0 1 :: gR 11 0 7 1021 :: iLD 1 1 :: CALL 18 1 0 51 1089 :: iCONST 1 :: iADD :: iLD 2 1 :: iADD :: iALD :: iST 4 0 :: aLD 0 1 :: gR 11 0 7 1021 :: iLD 1 1 :: CALL 18 1 0 51 1089 :: iCONST 1 :: iADD :: iLD 2 1 :: iADD :: iLD 3 1 :: iAST :: iLD 4 0 :: iRET :: [] := rfl
theorem ju_64_0 : am_ju 64 0 = aLD 0 1 :: gI 7 1 15 287 :: bPUSH 100 :: ICMP 2 5 :: vRET :: am_ju 64 5 := rfl
theorem ju_64_5 : am_ju 64 5 = aLD 0 1 :: gR 7 0 9 286 :: aLD 0 1 :: gI 7 1 15 287 :: iLD 1 1 :: iAST :: aLD 0 1 :: DUP :: gI 7 1 15 287 :: iCONST 1 :: iADD :: pI 7 1 15 287 :: vRET :: [] := rfl
theorem ju_65_0 : am_ju 65 0 = iLD 1 1 :: bPUSH 32 :: ICMP 2 6 :: iLD 1 1 :: bPUSH 126 :: ICMP 5 8 :: am_ju 65 6 := rfl
theorem ju_65_6 : am_ju 65 6 = iCONST (-1) :: iRET :: am_ju 65 8 := rfl
theorem ju_65_8 : am_ju 65 8 = aLD 0 1 :: gR 10 6 30 396 :: gI 7 1 177 288 :: bPUSH 100 :: ICMP 2 15 :: bPUSH (-3) :: iRET :: am_ju 65 15 := rfl
theorem ju_65_15 : am_ju 65 15 = aLD 0 1 :: gR 10 6 30 396 :: iLD 1 1 :: CALL 64 2 2 180 553 :: aLD 0 1 :: gR 10 6 30 396 :: gI 7 1 177 288 :: iRET :: [] := rfl
theorem ju_66_0 : am_ju 66 0 = iLD 1 1 :: bPUSH 32 :: bPUSH 126 :: CALL 17 3 0 47 1083 :: IFC 1 7 :: iCONST (-1) :: iRET :: am_ju 66 7 := rfl
theorem ju_66_7 : am_ju 66 7 = aLD 0 1 :: gI 11 6 94 1027 :: bPUSH 100 :: ICMP 1 13 :: bPUSH (-3) :: iRET :: am_ju 66 13 := rfl
theorem ju_66_13 : am_ju 66 13 = aLD 0 1 :: gR 11 5 22 1026 :: aLD 0 1 :: gI 11 6 94 1027 :: iLD 1 1 :: iAST :: aLD 0 1 :: DUP :: gI 11 6 94 1027 :: iCONST 1 :: iADD :: pI 11 6 94 1027 :: aLD 0 1 :: gI 11 6 94 1027 :: iRET :: [] := rfl
theorem ju_67_0 : am_ju 67 0 = aLD 0 1 :: gI 7 2 19 289 :: aLD 0 1 :: gI 7 1 15 287 :: ICMP 3 23 :: aLD 0 1 :: gI 7 2 19 289 :: bPUSH 100 :: ICMP 3 23 :: aLD 0 1 :: gR 7 0 9 286 :: aLD 0 1 :: gI 7 2 19 289 :: iALD :: bPUSH 32 :: ICMP 1 23 :: aLD 0 1 :: DUP :: gI 7 2 19 289 :: iCONST 1 :: iADD :: pI 7 2 19 289 :: GOTO 0 :: am_ju 67 23 := rfl
theorem ju_67_23 : am_ju 67 23 = aLD 0 1 :: gI 7 2 19 289 :: aLD 0 1 :: gI 7 1 15 287 :: ICMP 3 38 :: aLD 0 1 :: gI 7 2 19 289 :: bPUSH 100 :: ICMP 3 38 :: aLD 0 1 :: gR 7 0 9 286 :: aLD 0 1 :: gI 7 2 19 289 :: iALD :: GOTO 39 :: am_ju 67 38 := rfl
theorem ju_67_38 : am_ju 67 38 = iCONST (-1) :: am_ju 67 39 := rfl
theorem ju_67_39 : am_ju 67 39 = iRET :: [] := rfl
theorem ju_68_0 : am_ju 68 0 = iLD 0 1 :: LSW [12, 46, 2, 98, 8, 100, 6, 115, 10, 117, 4] :: am_ju 68 2 := rfl
theorem ju_68_2 : am_ju 68 2 = iCONST 0 :: iRET :: am_ju 68 4 := rfl
theorem ju_68_4 : am_ju 68 4 = iCONST 1 :: iRET :: am_ju 68 6 := rfl
theorem ju_68_6 : am_ju 68 6 = iCONST 2 :: iRET :: am_ju 68 8 := rfl
theorem ju_68_8 : am_ju 68 8 = iCONST 3 :: iRET :: am_ju 68 10 := rfl
theorem ju_68_10 : am_ju 68 10 = iCONST 4 :: iRET :: am_ju 68 12 := rfl
theorem ju_68_12 : am_ju 68 12 = iCONST (-1) :: iRET :: [] := rfl
theorem ju_69_0 : am_ju 69 0 = bPUSH (-20) :: aLD 0 1 :: gI 7 2 19 289 :: iSUB :: iRET :: [] := rfl
theorem ju_70_0 : am_ju 70 0 = aLD 0 1 :: iCONST 0 :: pI 7 2 19 289 :: iCONST 0 :: iST 2 1 :: am_ju 70 5 := rfl
theorem ju_70_5 : am_ju 70 5 = iLD 2 1 :: bPUSH 20 :: ICMP 3 41 :: aLD 0 1 :: CALL 67 1 2 22 565 :: CALL 68 1 0 26 569 :: iST 3 1 :: iLD 3 1 :: IFC 3 15 :: GOTO 41 :: am_ju 70 15 := rfl
theorem ju_70_15 : am_ju 70 15 = aLD 1 1 :: gR 8 0 30 146 :: iLD 2 1 :: iLD 3 1 :: iAST :: aLD 1 1 :: iLD 2 1 :: iCONST 1 :: iADD :: pI 8 1 35 148 :: aLD 0 1 :: DUP :: gI 7 2 19 289 :: iCONST 1 :: iADD :: pI 7 2 19 289 :: aLD 0 1 :: CALL 67 1 2 22 565 :: iCONST (-1) :: ICMP 1 39 :: iLD 2 1 :: iCONST 1 :: iADD :: iRET :: am_ju 70 39 := rfl
theorem ju_70_39 : am_ju 70 39 = IINC 2 1 :: GOTO 5 :: am_ju 70 41 := rfl
theorem ju_70_41 : am_ju 70 41 = aLD 0 1 :: CALL 69 1 2 36 572 :: iRET :: [] := rfl
theorem ju_71_0 : am_ju 71 0 = aLD 1 1 :: iCONST 0 :: aLD 0 1 :: iCONST 0 :: aLD 1 1 :: aLEN :: aLD 0 1 :: aLEN :: MMIN 302 587 :: ACPY 348 590 :: vRET :: [] := rfl
theorem ju_72_0 : am_ju 72 0 = aLD 0 1 :: gR 8 0 9 145 :: aLD 1 1 :: gR 8 0 9 145 :: CALL 71 2 1 23 584 :: aLD 0 1 :: aLD 1 1 :: gI 8 1 15 147 :: pI 8 1 15 147 :: vRET :: [] := rfl
theorem ju_73_0 : am_ju 73 0 = aLD 0 1 :: gR 9 1 21 220 :: aLD 1 1 :: CALL 72 2 2 64 580 :: aLD 0 1 :: gR 9 2 28 223 :: iCONST 0 :: pI 3 4 68 178 :: aLD 0 1 :: gR 9 3 35 226 :: iCONST 0 :: pI 5 2 50 207 :: vRET :: [] := rfl
theorem ju_74_0 : am_ju 74 0 = aLD 0 1 :: gR 10 6 30 396 :: aLD 0 1 :: gR 10 7 37 397 :: CALL 70 2 2 183 561 :: iST 1 1 :: aLD 0 1 :: gR 10 6 30 396 :: iCONST 0 :: pI 7 1 177 288 :: iLD 1 1 :: IFC 2 17 :: aLD 0 1 :: gR 10 0 59 390 :: aLD 0 1 :: gR 10 7 37 397 :: CALL 73 2 2 186 576 :: am_ju 74 17 := rfl
theorem ju_74_17 : am_ju 74 17 = iLD 1 1 :: iRET :: [] := rfl
theorem ju_75_0 : am_ju 75 0 = aLD 0 1 :: gI 11 11 98 1032 :: aLD 0 1 :: gI 11 6 94 1027 :: ICMP 3 19 :: aLD 0 1 :: gR 11 5 22 1026 :: aLD 0 1 :: gI 11 11 98 1032 :: iALD :: bPUSH 32 :: ICMP 1 19 :: aLD 0 1 :: DUP :: gI 11 11 98 1032 :: iCONST 1 :: iADD :: pI 11 11 98 1032 :: GOTO 0 :: am_ju 75 19 := rfl
theorem ju_75_19 : am_ju 75 19 = aLD 0 1 :: gI 11 11 98 1032 :: aLD 0 1 :: gI 11 6 94 1027 :: ICMP 3 30 :: aLD 0 1 :: gR 11 5 22 1026 :: aLD 0 1 :: gI 11 11 98 1032 :: iALD :: GOTO 31 :: am_ju 75 30 := rfl
theorem ju_75_30 : am_ju 75 30 = iCONST (-1) :: am_ju 75 31 := rfl
theorem ju_75_31 : am_ju 75 31 = iRET :: [] := rfl
theorem ju_76_0 : am_ju 76 0 = iLD 0 1 :: bPUSH 46 :: ICMP 1 5 :: iCONST 0 :: GOTO 26 :: am_ju 76 5 := rfl
theorem ju_76_5 : am_ju 76 5 = iLD 0 1 :: bPUSH 117 :: ICMP 1 10 :: iCONST 1 :: GOTO 26 :: am_ju 76 10 := rfl
theorem ju_76_10 : am_ju 76 10 = iLD 0 1 :: bPUSH 100 :: ICMP 1 15 :: iCONST 2 :: GOTO 26 :: am_ju 76 15 := rfl
theorem ju_76_15 : am_ju 76 15 = iLD 0 1 :: bPUSH 98 :: ICMP 1 20 :: iCONST 3 :: GOTO 26 :: am_ju 76 20 := rfl
theorem ju_76_20 : am_ju 76 20 = iLD 0 1 :: bPUSH 115 :: ICMP 1 25 :: iCONST 4 :: GOTO 26 :: am_ju 76 25 := rfl
theorem ju_76_25 : am_ju 76 25 = iCONST (-1) :: am_ju 76 26 := rfl
theorem ju_76_26 : am_ju 76 26 = iRET :: [] := rfl
theorem ju_77_0 : am_ju 77 0 = aLD 0 1 :: aLD 0 1 :: gI 11 12 101 1033 :: IFC 3 6 :: iLD 1 1 :: GOTO 8 :: am_ju 77 6 := rfl
theorem ju_77_6 : am_ju 77 6 = aLD 0 1 :: gI 11 12 101 1033 :: am_ju 77 8 := rfl
theorem ju_77_8 : am_ju 77 8 = pI 11 12 101 1033 :: vRET :: [] := rfl
set_option maxRecDepth 100000 in
theorem ju_78_0 : am_ju 78 0 = aLD 0 1 :: iCONST 0 :: pI 11 11 98 1032 :: aLD 0 1 :: iCONST (-1) :: pI 11 12 101 1033 :: iCONST 0 :: iST 1 1 :: iCONST 0 :: iST 2 1 :: am_ju 78 10 := rfl
set_option maxRecDepth 100000 in
theorem ju_78_10 : am_ju 78 10 = iLD 2 1 :: bPUSH 20 :: ICMP 3 33 :: aLD 0 1 :: CALL 75 1 2 104 1165 :: CALL 76 1 0 108 1169 :: iST 3 1 :: iLD 3 1 :: IFC 2 31 :: aLD 0 1 :: gR 11 2 16 1023 :: iLD 1 1 :: iLD 3 1 :: iAST :: IINC 1 1 :: aLD 0 1 :: DUP :: gI 11 11 98 1032 :: iCONST 1 :: iADD :: pI 11 11 98 1032 :: am_ju 78 31 := rfl
set_option maxRecDepth 100000 in
theorem ju_78_31 : am_ju 78 31 = IINC 2 1 :: GOTO 10 :: am_ju 78 33 := rfl
set_option maxRecDepth 100000 in
theorem ju_78_33 : am_ju 78 33 = aLD 0 1 :: CALL 75 1 2 104 1165 :: IFC 3 38 :: iLD 1 1 :: IFC 1 42 :: am_ju 78 38 := rfl
set_option maxRecDepth 100000 in
theorem ju_78_38 : am_ju 78 38 = aLD 0 1 :: aLD 0 1 :: gI 11 11 98 1032 :: CALL 77 2 2 111 1172 :: am_ju 78 42 := rfl
set_option maxRecDepth 100000 in
theorem ju_78_42 : am_ju 78 42 = aLD 0 1 :: iCONST 0 :: pI 11 6 94 1027 :: aLD 0 1 :: gI 11 12 101 1033 :: IFC 2 53 :: bPUSH (-20) :: aLD 0 1 :: gI 11 12 101 1033 :: iSUB :: iRET :: am_ju 78 53 := rfl
set_option maxRecDepth 100000 in
theorem ju_78_53 : am_ju 78 53 = iCONST 0 :: iST 2 1 :: am_ju 78 55 := rfl
set_option maxRecDepth 100000 in
theorem ju_78_55 : am_ju 78 55 = iLD 2 1 :: bPUSH 20 :: ICMP 3 75 :: aLD 0 1 :: gR 11 0 7 1021 :: bPUSH 66 :: iLD 2 1 :: iADD :: iLD 2 1 :: iLD 1 1 :: ICMP 3 71 :: aLD 0 1 :: gR 11 2 16 1023 :: iLD 2 1 :: iALD :: GOTO 72 :: am_ju 78 71 := rfl
set_option maxRecDepth 100000 in
theorem ju_78_71 : am_ju 78 71 = iCONST 0 :: am_ju 78 72 := rfl
set_option maxRecDepth 100000 in
theorem ju_78_72 : am_ju 78 72 = iAST :: IINC 2 1 :: GOTO 55 :: am_ju 78 75 := rfl
set_option maxRecDepth 100000 in
theorem ju_78_75 : am_ju 78 75 = aLD 0 1 :: gR 11 0 7 1021 :: iCONST 2 :: iLD 1 1 :: iAST :: aLD 0 1 :: gR 11 0 7 1021 :: iCONST 3 :: iCONST 0 :: iAST :: aLD 0 1 :: gR 11 0 7 1021 :: iCONST 5 :: iCONST 0 :: iAST :: iLD 1 1 :: iRET :: [] := rfl
theorem ju_79_0 : am_ju 79 0 = iCONST 0 :: iST 2 1 :: aLD 0 1 :: aLEN :: iST 3 1 :: am_ju 79 5 := rfl
theorem ju_79_5 : am_ju 79 5 = iLD 2 1 :: iLD 3 1 :: ICMP 3 14 :: aLD 0 1 :: iLD 2 1 :: iLD 1 1 :: iAST :: IINC 2 1 :: GOTO 5 :: am_ju 79 14 := rfl
theorem ju_79_14 : am_ju 79 14 = vRET :: [] := rfl
theorem ju_80_0 : am_ju 80 0 = iLD 0 1 :: LSW [10, 67, 8, 68, 4, 80, 2, 84, 6] :: am_ju 80 2 := rfl
theorem ju_80_2 : am_ju 80 2 = iCONST 0 :: iRET :: am_ju 80 4 := rfl
theorem ju_80_4 : am_ju 80 4 = iCONST 1 :: iRET :: am_ju 80 6 := rfl
theorem ju_80_6 : am_ju 80 6 = iCONST 2 :: iRET :: am_ju 80 8 := rfl
theorem ju_80_8 : am_ju 80 8 = iCONST 3 :: iRET :: am_ju 80 10 := rfl
theorem ju_80_10 : am_ju 80 10 = iCONST (-1) :: iRET :: [] := rfl
theorem ju_81_0 : am_ju 81 0 = iCONST 0 :: iST 2 1 :: am_ju 81 2 := rfl
theorem ju_81_2 : am_ju 81 2 = iLD 2 1 :: iCONST 3 :: ICMP 3 52 :: aLD 0 1 :: CALL 67 1 2 22 565 :: CALL 80 1 0 61 608 :: iST 3 1 :: iLD 3 1 :: IFC 3 13 :: iCONST 0 :: zRET :: am_ju 81 13 := rfl
theorem ju_81_13 : am_ju 81 13 = aLD 1 1 :: iLD 3 1 :: CALL 14 2 2 64 611 :: aLD 0 1 :: DUP :: gI 7 2 19 289 :: iCONST 1 :: iADD :: pI 7 2 19 289 :: aLD 0 1 :: CALL 67 1 2 22 565 :: iST 4 0 :: iLD 4 0 :: bPUSH 59 :: ICMP 1 36 :: aLD 0 1 :: DUP :: gI 7 2 19 289 :: iCONST 1 :: iADD :: pI 7 2 19 289 :: iCONST 1 :: zRET :: am_ju 81 36 := rfl
theorem ju_81_36 : am_ju 81 36 = iLD 4 0 :: bPUSH 44 :: ICMP 1 42 :: iLD 2 1 :: iCONST 2 :: ICMP 1 44 :: am_ju 81 42 := rfl
theorem ju_81_42 : am_ju 81 42 = iCONST 0 :: zRET :: am_ju 81 44 := rfl
theorem ju_81_44 : am_ju 81 44 = aLD 0 1 :: DUP :: gI 7 2 19 289 :: iCONST 1 :: iADD :: pI 7 2 19 289 :: IINC 2 1 :: GOTO 2 :: am_ju 81 52 := rfl
theorem ju_81_52 : am_ju 81 52 = iCONST 0 :: zRET :: [] := rfl
theorem ju_82_0 : am_ju 82 0 = aLD 0 1 :: CALL 67 1 2 22 565 :: POP :: aLD 0 1 :: gI 7 2 19 289 :: iST 1 1 :: iCONST 0 :: iST 2 1 :: am_ju 82 8 := rfl
theorem ju_82_8 : am_ju 82 8 = aLD 0 1 :: gI 7 2 19 289 :: aLD 0 1 :: gI 7 1 15 287 :: ICMP 3 52 :: aLD 0 1 :: gI 7 2 19 289 :: bPUSH 100 :: ICMP 3 52 :: aLD 0 1 :: gR 7 0 9 286 :: aLD 0 1 :: gI 7 2 19 289 :: iALD :: bPUSH 48 :: ICMP 2 52 :: aLD 0 1 :: gR 7 0 9 286 :: aLD 0 1 :: gI 7 2 19 289 :: iALD :: bPUSH 57 :: ICMP 4 52 :: bPUSH 99 :: iLD 2 1 :: bPUSH 10 :: iMUL :: aLD 0 1 :: gR 7 0 9 286 :: aLD 0 1 :: gI 7 2 19 289 :: iALD :: iADD :: bPUSH 48 :: iSUB :: MMIN 83 624 :: iST 2 1 :: aLD 0 1 :: DUP :: gI 7 2 19 289 :: iCONST 1 :: iADD :: pI 7 2 19 289 :: GOTO 8 :: am_ju 82 52 := rfl
theorem ju_82_52 : am_ju 82 52 = iLD 2 1 :: iCONST 1 :: ICMP 2 60 :: iLD 2 1 :: bPUSH 30 :: ICMP 4 60 :: iLD 2 1 :: iRET :: am_ju 82 60 := rfl
theorem ju_82_60 : am_ju 82 60 = aLD 0 1 :: iLD 1 1 :: pI 7 2 19 289 :: iCONST (-1) :: iRET :: [] := rfl
theorem ju_83_0 : am_ju 83 0 = aLD 0 1 :: CALL 67 1 2 22 565 :: iLD 1 1 :: ICMP 0 6 :: iLD 3 1 :: iRET :: am_ju 83 6 := rfl
theorem ju_83_6 : am_ju 83 6 = aLD 0 1 :: DUP :: gI 7 2 19 289 :: iCONST 1 :: iADD :: pI 7 2 19 289 :: aLD 0 1 :: CALL 67 1 2 22 565 :: bPUSH 48 :: iSUB :: iST 4 0 :: iLD 4 0 :: iLD 2 1 :: CALL 12 2 1 89 629 :: IFC 1 23 :: iCONST (-1) :: iRET :: am_ju 83 23 := rfl
theorem ju_83_23 : am_ju 83 23 = aLD 0 1 :: DUP :: gI 7 2 19 289 :: iCONST 1 :: iADD :: pI 7 2 19 289 :: iLD 4 0 :: iRET :: [] := rfl
theorem ju_84_0 : am_ju 84 0 = aLD 0 1 :: CALL 82 1 2 72 620 :: iST 2 1 :: iLD 2 1 :: IFC 3 7 :: iCONST (-1) :: iRET :: am_ju 84 7 := rfl
theorem ju_84_7 : am_ju 84 7 = aLD 0 1 :: bPUSH 119 :: bPUSH 6 :: iCONST 0 :: CALL 83 4 2 75 625 :: iST 3 1 :: iLD 3 1 :: IFC 3 17 :: iCONST (-1) :: iRET :: am_ju 84 17 := rfl
theorem ju_84_17 : am_ju 84 17 = aLD 0 1 :: bPUSH 101 :: bPUSH 6 :: iCONST 0 :: CALL 83 4 2 75 625 :: iST 4 0 :: iLD 4 0 :: IFC 3 27 :: iCONST (-1) :: iRET :: am_ju 84 27 := rfl
theorem ju_84_27 : am_ju 84 27 = aLD 0 1 :: CALL 67 1 2 22 565 :: bPUSH 114 :: ICMP 1 33 :: iCONST 1 :: GOTO 34 :: am_ju 84 33 := rfl
theorem ju_84_33 : am_ju 84 33 = iCONST 0 :: am_ju 84 34 := rfl
theorem ju_84_34 : am_ju 84 34 = iST 5 0 :: aLD 0 1 :: DUP :: gI 7 2 19 289 :: iLD 5 0 :: iADD :: pI 7 2 19 289 :: aLD 0 1 :: bPUSH 64 :: aLD 1 1 :: gI 2 6 39 116 :: iCONST 3 :: CALL 83 4 2 75 625 :: iST 6 0 :: iLD 6 0 :: IFC 3 52 :: iCONST (-1) :: iRET :: am_ju 84 52 := rfl
theorem ju_84_52 : am_ju 84 52 = aLD 1 1 :: iLD 2 1 :: iLD 3 1 :: iLD 4 0 :: iLD 2 1 :: iLD 5 0 :: CALL 22 6 2 79 630 :: iLD 6 0 :: iRET :: [] := rfl
theorem ju_85_0 : am_ju 85 0 = iCONST 0 :: iST 3 1 :: am_ju 85 2 := rfl
theorem ju_85_2 : am_ju 85 2 = iLD 3 1 :: aLD 2 1 :: aLEN :: ICMP 3 45 :: aLD 2 1 :: iLD 3 1 :: aLD 0 1 :: aLD 1 1 :: CALL 84 2 2 68 616 :: iAST :: aLD 2 1 :: iLD 3 1 :: iALD :: IFC 3 18 :: iCONST 0 :: zRET :: am_ju 85 18 := rfl
theorem ju_85_18 : am_ju 85 18 = aLD 0 1 :: CALL 67 1 2 22 565 :: iST 4 0 :: iLD 4 0 :: iCONST (-1) :: ICMP 1 26 :: iCONST 1 :: zRET :: am_ju 85 26 := rfl
theorem ju_85_26 : am_ju 85 26 = iLD 4 0 :: bPUSH 44 :: ICMP 1 35 :: iLD 3 1 :: aLD 2 1 :: aLEN :: iCONST 1 :: iSUB :: ICMP 1 37 :: am_ju 85 35 := rfl
theorem ju_85_35 : am_ju 85 35 = iCONST 0 :: zRET :: am_ju 85 37 := rfl
theorem ju_85_37 : am_ju 85 37 = aLD 0 1 :: DUP :: gI 7 2 19 289 :: iCONST 1 :: iADD :: pI 7 2 19 289 :: IINC 3 1 :: GOTO 2 :: am_ju 85 45 := rfl
theorem ju_85_45 : am_ju 85 45 = iCONST 0 :: zRET :: [] := rfl
theorem ju_86_0 : am_ju 86 0 = aLD 0 1 :: iCONST 0 :: pI 7 2 19 289 :: aLD 1 1 :: iCONST 0 :: pI 2 6 39 116 :: aLD 1 1 :: iCONST 0 :: pI 2 7 44 120 :: aLD 2 1 :: iCONST 3 :: CALL 79 2 0 47 601 :: aLD 0 1 :: aLD 1 1 :: CALL 81 2 2 53 604 :: IFC 0 21 :: aLD 0 1 :: aLD 1 1 :: aLD 2 1 :: CALL 85 3 2 57 612 :: IFC 1 24 :: am_ju 86 21 := rfl
theorem ju_86_21 : am_ju 86 21 = aLD 0 1 :: CALL 69 1 2 36 572 :: iRET :: am_ju 86 24 := rfl
theorem ju_86_24 : am_ju 86 24 = aLD 1 1 :: gI 2 7 44 120 :: iRET :: [] := rfl
theorem ju_87_0 : am_ju 87 0 = aLD 0 1 :: gR 2 0 9 93 :: aLD 1 1 :: gR 2 0 9 93 :: CALL 71 2 1 41 639 :: aLD 0 1 :: gR 2 1 15 96 :: aLD 1 1 :: gR 2 1 15 96 :: CALL 71 2 1 41 639 :: aLD 0 1 :: gR 2 2 18 99 :: aLD 1 1 :: gR 2 2 18 99 :: CALL 71 2 1 41 639 :: aLD 0 1 :: gR 2 3 21 102 :: aLD 1 1 :: gR 2 3 21 102 :: CALL 71 2 1 41 639 :: aLD 0 1 :: gR 2 4 24 105 :: aLD 1 1 :: gR 2 4 24 105 :: CALL 71 2 1 41 639 :: aLD 0 1 :: gR 2 5 27 109 :: aLD 1 1 :: gR 2 5 27 109 :: CALL 71 2 1 41 639 :: aLD 0 1 :: aLD 1 1 :: gI 2 6 30 112 :: pI 2 6 30 112 :: aLD 0 1 :: aLD 1 1 :: gI 2 7 34 117 :: pI 2 7 34 117 :: vRET :: [] := rfl
theorem ju_88_0 : am_ju 88 0 = aLD 0 1 :: gR 9 0 12 216 :: aLD 1 1 :: CALL 87 2 2 71 635 :: aLD 0 1 :: gR 9 2 28 223 :: gR 3 3 74 174 :: aLD 2 1 :: CALL 71 2 1 78 640 :: iCONST 0 :: iST 3 1 :: am_ju 88 11 := rfl
theorem ju_88_11 : am_ju 88 11 = iLD 3 1 :: iCONST 3 :: ICMP 3 20 :: aLD 0 1 :: gR 9 2 28 223 :: iLD 3 1 :: CALL 13 2 2 43 435 :: IINC 3 1 :: GOTO 11 :: am_ju 88 20 := rfl
theorem ju_88_20 : am_ju 88 20 = aLD 0 1 :: gR 9 3 35 226 :: iCONST 0 :: pI 5 2 50 207 :: vRET :: [] := rfl
theorem ju_89_0 : am_ju 89 0 = aLD 0 1 :: gR 10 6 30 396 :: aLD 0 1 :: gR 10 8 44 398 :: aLD 0 1 :: gR 10 9 48 399 :: CALL 86 3 2 190 597 :: iST 1 1 :: aLD 0 1 :: gR 10 6 30 396 :: iCONST 0 :: pI 7 1 177 288 :: iLD 1 1 :: IFC 2 21 :: aLD 0 1 :: gR 10 0 59 390 :: aLD 0 1 :: gR 10 8 44 398 :: aLD 0 1 :: gR 10 9 48 399 :: CALL 88 3 2 194 631 :: am_ju 89 21 := rfl
theorem ju_89_21 : am_ju 89 21 = iLD 1 1 :: iRET :: [] := rfl
theorem ju_90_0 : am_ju 90 0 = iCONST 0 :: iST 2 1 :: am_ju 90 2 := rfl
theorem ju_90_2 : am_ju 90 2 = iLD 2 1 :: sPUSH 238 :: ICMP 3 13 :: aLD 1 1 :: iLD 2 1 :: aLD 0 1 :: iLD 2 1 :: iALD :: iAST :: IINC 2 1 :: GOTO 2 :: am_ju 90 13 := rfl
theorem ju_90_13 : am_ju 90 13 = vRET :: [] := rfl
theorem ju_91_0 : am_ju 91 0 = iLD 0 1 :: bPUSH 80 :: ICMP 1 5 :: iCONST 0 :: GOTO 21 :: am_ju 91 5 := rfl
theorem ju_91_5 : am_ju 91 5 = iLD 0 1 :: bPUSH 68 :: ICMP 1 10 :: iCONST 1 :: GOTO 21 :: am_ju 91 10 := rfl
theorem ju_91_10 : am_ju 91 10 = iLD 0 1 :: bPUSH 84 :: ICMP 1 15 :: iCONST 2 :: GOTO 21 :: am_ju 91 15 := rfl
theorem ju_91_15 : am_ju 91 15 = iLD 0 1 :: bPUSH 67 :: ICMP 1 20 :: iCONST 3 :: GOTO 21 :: am_ju 91 20 := rfl
theorem ju_91_20 : am_ju 91 20 = iCONST (-1) :: am_ju 91 21 := rfl
theorem ju_91_21 : am_ju 91 21 = iRET :: [] := rfl
theorem ju_92_0 : am_ju 92 0 = aLD 0 1 :: CALL 75 1 2 104 1165 :: CALL 91 1 0 115 1191 :: iST 1 1 :: iLD 1 1 :: IFC 3 11 :: aLD 0 1 :: aLD 0 1 :: gI 11 11 98 1032 :: CALL 77 2 2 111 1172 :: vRET :: am_ju 92 11 := rfl
theorem ju_92_11 : am_ju 92 11 = aLD 0 1 :: DUP :: gI 11 11 98 1032 :: iCONST 1 :: iADD :: pI 11 11 98 1032 :: aLD 0 1 :: gR 11 2 16 1023 :: iLD 1 1 :: CALL 19 2 0 55 1086 :: vRET :: [] := rfl
theorem ju_93_0 : am_ju 93 0 = aLD 0 1 :: CALL 75 1 2 104 1165 :: iLD 1 1 :: ICMP 1 11 :: aLD 0 1 :: DUP :: gI 11 11 98 1032 :: iCONST 1 :: iADD :: pI 11 11 98 1032 :: GOTO 15 :: am_ju 93 11 := rfl
theorem ju_93_11 : am_ju 93 11 = aLD 0 1 :: aLD 0 1 :: gI 11 11 98 1032 :: CALL 77 2 2 111 1172 :: am_ju 93 15 := rfl
theorem ju_93_15 : am_ju 93 15 = vRET :: [] := rfl
theorem ju_94_0 : am_ju 94 0 = aLD 0 1 :: CALL 75 1 2 104 1165 :: POP :: aLD 0 1 :: gI 11 11 98 1032 :: iST 1 1 :: iCONST 0 :: iST 2 1 :: am_ju 94 8 := rfl
theorem ju_94_8 : am_ju 94 8 = aLD 0 1 :: gI 11 11 98 1032 :: aLD 0 1 :: gI 11 6 94 1027 :: ICMP 3 46 :: aLD 0 1 :: gR 11 5 22 1026 :: aLD 0 1 :: gI 11 11 98 1032 :: iALD :: bPUSH 48 :: bPUSH 57 :: CALL 17 3 0 47 1083 :: IFC 0 46 :: iLD 2 1 :: bPUSH 99 :: ICMP 5 27 :: iLD 2 1 :: GOTO 38 :: am_ju 94 27 := rfl
theorem ju_94_27 : am_ju 94 27 = bPUSH 10 :: iLD 2 1 :: iMUL :: aLD 0 1 :: gR 11 5 22 1026 :: aLD 0 1 :: gI 11 11 98 1032 :: iALD :: iADD :: bPUSH 48 :: iSUB :: am_ju 94 38 := rfl
theorem ju_94_38 : am_ju 94 38 = iST 2 1 :: aLD 0 1 :: DUP :: gI 11 11 98 1032 :: iCONST 1 :: iADD :: pI 11 11 98 1032 :: GOTO 8 :: am_ju 94 46 := rfl
theorem ju_94_46 : am_ju 94 46 = iLD 2 1 :: iCONST 1 :: bPUSH 30 :: CALL 17 3 0 47 1083 :: IFC 1 54 :: aLD 0 1 :: iLD 1 1 :: CALL 77 2 2 111 1172 :: am_ju 94 54 := rfl
theorem ju_94_54 : am_ju 94 54 = iLD 2 1 :: iRET :: [] := rfl
theorem ju_95_0 : am_ju 95 0 = aLD 0 1 :: CALL 75 1 2 104 1165 :: bPUSH 48 :: iSUB :: iST 2 1 :: iLD 2 1 :: iCONST 0 :: iLD 1 1 :: CALL 17 3 0 47 1083 :: IFC 1 16 :: aLD 0 1 :: aLD 0 1 :: gI 11 11 98 1032 :: CALL 77 2 2 111 1172 :: iCONST 0 :: iRET :: am_ju 95 16 := rfl
theorem ju_95_16 : am_ju 95 16 = aLD 0 1 :: DUP :: gI 11 11 98 1032 :: iCONST 1 :: iADD :: pI 11 11 98 1032 :: iLD 2 1 :: iRET :: [] := rfl
theorem ju_96_0 : am_ju 96 0 = aLD 0 1 :: gI 11 12 101 1033 :: IFC 3 7 :: aLD 0 1 :: CALL 75 1 2 104 1165 :: iLD 1 1 :: ICMP 0 9 :: am_ju 96 7 := rfl
theorem ju_96_7 : am_ju 96 7 = iCONST 0 :: iRET :: am_ju 96 9 := rfl
theorem ju_96_9 : am_ju 96 9 = aLD 0 1 :: DUP :: gI 11 11 98 1032 :: iCONST 1 :: iADD :: pI 11 11 98 1032 :: aLD 0 1 :: iLD 2 1 :: CALL 95 2 2 118 1210 :: iRET :: [] := rfl
set_option maxRecDepth 100000 in
theorem ju_97_0 : am_ju 97 0 = aLD 0 1 :: gR 11 2 16 1023 :: iCONST 1 :: iALD :: CALL 25 1 0 59 1096 :: iST 1 1 :: aLD 0 1 :: CALL 94 1 2 121 1202 :: iST 2 1 :: aLD 0 1 :: gR 11 2 16 1023 :: iLD 1 1 :: iCONST 0 :: iADD :: iLD 2 1 :: iAST :: aLD 0 1 :: gR 11 2 16 1023 :: iLD 1 1 :: iCONST 3 :: iADD :: iLD 2 1 :: iAST :: aLD 0 1 :: gR 11 2 16 1023 :: iLD 1 1 :: iCONST 1 :: iADD :: aLD 0 1 :: bPUSH 119 :: iCONST 5 :: CALL 96 3 2 124 1206 :: iAST :: aLD 0 1 :: gR 11 2 16 1023 :: iLD 1 1 :: iCONST 2 :: iADD :: aLD 0 1 :: bPUSH 101 :: iCONST 5 :: CALL 96 3 2 124 1206 :: iAST :: aLD 0 1 :: gI 11 12 101 1033 :: IFC 3 52 :: aLD 0 1 :: CALL 75 1 2 104 1165 :: bPUSH 114 :: ICMP 1 52 :: iCONST 1 :: GOTO 53 :: am_ju 97 52 := rfl
set_option maxRecDepth 100000 in
theorem ju_97_52 : am_ju 97 52 = iCONST 0 :: am_ju 97 53 := rfl
set_option maxRecDepth 100000 in
theorem ju_97_53 : am_ju 97 53 = iST 3 1 :: aLD 0 1 :: DUP :: gI 11 11 98 1032 :: iLD 3 1 :: IFC 0 61 :: iCONST 1 :: GOTO 62 :: am_ju 97 61 := rfl
set_option maxRecDepth 100000 in
theorem ju_97_61 : am_ju 97 61 = iCONST 0 :: am_ju 97 62 := rfl
set_option maxRecDepth 100000 in
theorem ju_97_62 : am_ju 97 62 = iADD :: pI 11 11 98 1032 :: aLD 0 1 :: gR 11 2 16 1023 :: iLD 1 1 :: iCONST 4 :: iADD :: iLD 3 1 :: IFC 0 73 :: iCONST 1 :: GOTO 74 :: am_ju 97 73 := rfl
set_option maxRecDepth 100000 in
theorem ju_97_73 : am_ju 97 73 = iCONST 0 :: am_ju 97 74 := rfl
set_option maxRecDepth 100000 in
theorem ju_97_74 : am_ju 97 74 = iAST :: aLD 0 1 :: gI 11 12 101 1033 :: IFC 3 84 :: aLD 0 1 :: CALL 75 1 2 104 1165 :: bPUSH 64 :: ICMP 1 84 :: iCONST 1 :: GOTO 85 :: am_ju 97 84 := rfl
set_option maxRecDepth 100000 in
theorem ju_97_84 : am_ju 97 84 = iCONST 0 :: am_ju 97 85 := rfl
set_option maxRecDepth 100000 in
theorem ju_97_85 : am_ju 97 85 = iST 4 0 :: aLD 0 1 :: bPUSH 64 :: aLD 0 1 :: gR 11 2 16 1023 :: iCONST 0 :: iALD :: iCONST 1 :: iSUB :: CALL 96 3 2 124 1206 :: iST 5 0 :: aLD 0 1 :: gR 11 2 16 1023 :: iLD 1 1 :: iCONST 5 :: iADD :: iLD 4 0 :: IFC 0 105 :: iLD 5 0 :: GOTO 106 :: am_ju 97 105 := rfl
set_option maxRecDepth 100000 in
theorem ju_97_105 : am_ju 97 105 = iCONST 3 :: am_ju 97 106 := rfl
set_option maxRecDepth 100000 in
theorem ju_97_106 : am_ju 97 106 = iAST :: aLD 0 1 :: gR 11 2 16 1023 :: iCONST 1 :: DUP2 :: iALD :: iCONST 1 :: iADD :: iAST :: vRET :: [] := rfl
theorem ju_98_0 : am_ju 98 0 = aLD 0 1 :: CALL 92 1 2 128 1187 :: am_ju 98 2 := rfl
theorem ju_98_2 : am_ju 98 2 = aLD 0 1 :: gI 11 12 101 1033 :: IFC 3 24 :: aLD 0 1 :: gR 11 2 16 1023 :: iCONST 0 :: iALD :: iCONST 3 :: ICMP 3 24 :: aLD 0 1 :: CALL 75 1 2 104 1165 :: bPUSH 44 :: ICMP 1 24 :: aLD 0 1 :: DUP :: gI 11 11 98 1032 :: iCONST 1 :: iADD :: pI 11 11 98 1032 :: aLD 0 1 :: CALL 92 1 2 128 1187 :: GOTO 2 :: am_ju 98 24 := rfl
theorem ju_98_24 : am_ju 98 24 = aLD 0 1 :: bPUSH 59 :: CALL 93 2 2 131 1194 :: aLD 0 1 :: gI 11 12 101 1033 :: IFC 3 32 :: aLD 0 1 :: CALL 97 1 2 134 1198 :: am_ju 98 32 := rfl
theorem ju_98_32 : am_ju 98 32 = aLD 0 1 :: gI 11 12 101 1033 :: IFC 3 54 :: aLD 0 1 :: gR 11 2 16 1023 :: iCONST 1 :: iALD :: bPUSH 8 :: ICMP 3 54 :: aLD 0 1 :: CALL 75 1 2 104 1165 :: bPUSH 44 :: ICMP 1 54 :: aLD 0 1 :: DUP :: gI 11 11 98 1032 :: iCONST 1 :: iADD :: pI 11 11 98 1032 :: aLD 0 1 :: CALL 97 1 2 134 1198 :: GOTO 32 :: am_ju 98 54 := rfl
theorem ju_98_54 : am_ju 98 54 = aLD 0 1 :: CALL 75 1 2 104 1165 :: IFC 2 61 :: aLD 0 1 :: aLD 0 1 :: gI 11 11 98 1032 :: CALL 77 2 2 111 1172 :: am_ju 98 61 := rfl
theorem ju_98_61 : am_ju 98 61 = vRET :: [] := rfl
theorem ju_99_0 : am_ju 99 0 = aLD 0 1 :: gR 11 0 7 1021 :: aLD 0 1 :: gR 11 2 16 1023 :: CALL 90 2 0 137 1180 :: aLD 0 1 :: gR 11 2 16 1023 :: iCONST 0 :: iCONST 0 :: iAST :: aLD 0 1 :: gR 11 2 16 1023 :: iCONST 1 :: iCONST 0 :: iAST :: aLD 0 1 :: gR 11 2 16 1023 :: iCONST 5 :: iCONST 0 :: iAST :: aLD 0 1 :: iCONST 0 :: pI 11 11 98 1032 :: aLD 0 1 :: iCONST (-1) :: pI 11 12 101 1033 :: aLD 0 1 :: CALL 98 1 2 141 1183 :: aLD 0 1 :: iCONST 0 :: pI 11 6 94 1027 :: aLD 0 1 :: gI 11 12 101 1033 :: IFC 2 39 :: bPUSH (-20) :: aLD 0 1 :: gI 11 12 101 1033 :: iSUB :: iRET :: am_ju 99 39 := rfl
theorem ju_99_39 : am_ju 99 39 = aLD 0 1 :: gR 11 2 16 1023 :: aLD 0 1 :: gR 11 0 7 1021 :: CALL 90 2 0 137 1180 :: aLD 0 1 :: gR 11 0 7 1021 :: iCONST 1 :: iALD :: iRET :: [] := rfl
theorem ju_100_0 : am_ju 100 0 = iLD 1 1 :: IFC 2 14 :: iLD 1 1 :: aLD 0 1 :: gI 8 1 15 147 :: ICMP 3 14 :: iLD 1 1 :: bPUSH 20 :: ICMP 3 14 :: aLD 0 1 :: gR 8 0 9 145 :: iLD 1 1 :: iALD :: GOTO 15 :: am_ju 100 14 := rfl
theorem ju_100_14 : am_ju 100 14 = iCONST (-1) :: am_ju 100 15 := rfl
theorem ju_100_15 : am_ju 100 15 = iRET :: [] := rfl
theorem ju_101_0 : am_ju 101 0 = iLD 1 1 :: aLD 0 1 :: gR 10 0 59 390 :: gR 9 1 198 222 :: gI 8 1 201 152 :: CALL 12 2 0 78 428 :: IFC 0 13 :: aLD 0 1 :: gR 10 0 59 390 :: gR 9 1 198 222 :: iLD 1 1 :: CALL 100 2 2 202 645 :: GOTO 14 :: am_ju 101 13 := rfl
theorem ju_101_13 : am_ju 101 13 = iCONST (-1) :: am_ju 101 14 := rfl
theorem ju_101_14 : am_ju 101 14 = iRET :: [] := rfl
theorem ju_102_0 : am_ju 102 0 = iLD 1 1 :: iCONST 0 :: aLD 0 1 :: gR 11 0 7 1021 :: iCONST 2 :: iALD :: iCONST 1 :: iSUB :: CALL 17 3 0 47 1083 :: IFC 0 17 :: aLD 0 1 :: gR 11 0 7 1021 :: bPUSH 66 :: iLD 1 1 :: iADD :: iALD :: GOTO 18 :: am_ju 102 17 := rfl
theorem ju_102_17 : am_ju 102 17 = iCONST (-1) :: am_ju 102 18 := rfl
theorem ju_102_18 : am_ju 102 18 = iRET :: [] := rfl
theorem ju_103_0 : am_ju 103 0 = iCONST 0 :: iST 1 1 :: iCONST 0 :: iST 2 1 :: am_ju 103 4 := rfl
theorem ju_103_4 : am_ju 103 4 = iLD 2 1 :: aLD 0 1 :: gR 9 0 12 216 :: gI 2 7 53 118 :: ICMP 3 24 :: aLD 0 1 :: gR 9 2 28 223 :: gR 3 3 74 174 :: iLD 2 1 :: iALD :: bPUSH 10 :: ICMP 2 22 :: iLD 1 1 :: iCONST 1 :: iLD 2 1 :: iSHL :: iOR :: iST 1 1 :: am_ju 103 22 := rfl
theorem ju_103_22 : am_ju 103 22 = IINC 2 1 :: GOTO 4 :: am_ju 103 24 := rfl
theorem ju_103_24 : am_ju 103 24 = iLD 1 1 :: iRET :: [] := rfl
theorem ju_104_0 : am_ju 104 0 = iCONST 0 :: iST 2 1 :: iLD 1 1 :: iST 3 1 :: am_ju 104 4 := rfl
theorem ju_104_4 : am_ju 104 4 = iLD 3 1 :: aLD 0 1 :: gI 8 1 15 147 :: ICMP 3 16 :: aLD 0 1 :: iLD 3 1 :: CALL 100 2 2 19 662 :: iCONST 3 :: ICMP 1 14 :: IINC 2 1 :: am_ju 104 14 := rfl
theorem ju_104_14 : am_ju 104 14 = IINC 3 1 :: GOTO 4 :: am_ju 104 16 := rfl
theorem ju_104_16 : am_ju 104 16 = iLD 2 1 :: iRET :: [] := rfl
theorem ju_105_0 : am_ju 105 0 = iLD 1 1 :: TSW [0, 6, 41, 2, 7, 12, 17, 22, 27, 32] :: am_ju 105 2 := rfl
theorem ju_105_2 : am_ju 105 2 = aLD 0 1 :: gR 10 0 59 390 :: gR 9 0 82 217 :: gI 2 6 85 114 :: iRET :: am_ju 105 7 := rfl
theorem ju_105_7 : am_ju 105 7 = aLD 0 1 :: gR 10 0 59 390 :: gR 9 0 82 217 :: gI 2 7 93 119 :: iRET :: am_ju 105 12 := rfl
theorem ju_105_12 : am_ju 105 12 = aLD 0 1 :: gR 10 0 59 390 :: gR 9 1 198 222 :: gI 8 1 201 152 :: iRET :: am_ju 105 17 := rfl
theorem ju_105_17 : am_ju 105 17 = aLD 0 1 :: gR 10 0 59 390 :: gR 9 2 107 225 :: gI 3 4 205 179 :: iRET :: am_ju 105 22 := rfl
theorem ju_105_22 : am_ju 105 22 = aLD 0 1 :: gR 10 0 59 390 :: CALL 103 1 2 208 653 :: CALL 55 1 0 211 657 :: iRET :: am_ju 105 27 := rfl
theorem ju_105_27 : am_ju 105 27 = aLD 0 1 :: gR 10 0 59 390 :: gR 9 3 216 227 :: gI 5 2 220 208 :: iRET :: am_ju 105 32 := rfl
theorem ju_105_32 : am_ju 105 32 = aLD 0 1 :: gR 10 0 59 390 :: gR 9 1 198 222 :: aLD 0 1 :: gR 10 0 59 390 :: gR 9 2 107 225 :: gI 3 4 205 179 :: CALL 104 2 2 225 658 :: iRET :: am_ju 105 41 := rfl
theorem ju_105_41 : am_ju 105 41 = iCONST (-1) :: iRET :: [] := rfl
theorem ju_106_0 : am_ju 106 0 = iCONST 0 :: iST 1 1 :: iCONST 0 :: iST 2 1 :: am_ju 106 4 := rfl
theorem ju_106_4 : am_ju 106 4 = iLD 2 1 :: aLD 0 1 :: gR 11 0 7 1021 :: iCONST 1 :: iALD :: ICMP 3 27 :: iLD 1 1 :: aLD 0 1 :: gR 11 0 7 1021 :: iLD 2 1 :: CALL 25 1 0 59 1096 :: iCONST 5 :: iADD :: iALD :: bPUSH 10 :: ICMP 2 22 :: iCONST 1 :: GOTO 23 :: am_ju 106 22 := rfl
theorem ju_106_22 : am_ju 106 22 = iCONST 0 :: am_ju 106 23 := rfl
theorem ju_106_23 : am_ju 106 23 = iADD :: iST 1 1 :: IINC 2 1 :: GOTO 4 :: am_ju 106 27 := rfl
theorem ju_106_27 : am_ju 106 27 = iLD 1 1 :: iRET :: [] := rfl
theorem ju_107_0 : am_ju 107 0 = iCONST 0 :: iST 1 1 :: aLD 0 1 :: gR 11 0 7 1021 :: iCONST 3 :: iALD :: iST 2 1 :: am_ju 107 7 := rfl
theorem ju_107_7 : am_ju 107 7 = iLD 2 1 :: aLD 0 1 :: gR 11 0 7 1021 :: iCONST 2 :: iALD :: ICMP 3 29 :: iLD 1 1 :: aLD 0 1 :: gR 11 0 7 1021 :: bPUSH 66 :: iLD 2 1 :: iADD :: iALD :: iCONST 3 :: ICMP 1 24 :: iCONST 1 :: GOTO 25 :: am_ju 107 24 := rfl
theorem ju_107_24 : am_ju 107 24 = iCONST 0 :: am_ju 107 25 := rfl
theorem ju_107_25 : am_ju 107 25 = iADD :: iST 1 1 :: IINC 2 1 :: GOTO 7 :: am_ju 107 29 := rfl
theorem ju_107_29 : am_ju 107 29 = iLD 1 1 :: iRET :: [] := rfl
theorem ju_108_0 : am_ju 108 0 = iLD 1 1 :: iCONST 0 :: bPUSH 6 :: CALL 17 3 0 47 1083 :: IFC 1 7 :: iCONST (-1) :: iRET :: am_ju 108 7 := rfl
theorem ju_108_7 : am_ju 108 7 = iLD 1 1 :: iCONST 4 :: ICMP 3 15 :: aLD 0 1 :: gR 11 0 7 1021 :: iLD 1 1 :: iALD :: GOTO 31 :: am_ju 108 15 := rfl
theorem ju_108_15 : am_ju 108 15 = iLD 1 1 :: iCONST 4 :: ICMP 1 21 :: aLD 0 1 :: CALL 106 1 2 144 1222 :: GOTO 31 :: am_ju 108 21 := rfl
theorem ju_108_21 : am_ju 108 21 = iLD 1 1 :: iCONST 5 :: ICMP 1 29 :: aLD 0 1 :: gR 11 0 7 1021 :: iCONST 5 :: iALD :: GOTO 31 :: am_ju 108 29 := rfl
theorem ju_108_29 : am_ju 108 29 = aLD 0 1 :: CALL 107 1 2 147 1226 :: am_ju 108 31 := rfl
theorem ju_108_31 : am_ju 108 31 = iRET :: [] := rfl
theorem ju_109_0 : am_ju 109 0 = iCONST 0 :: aLD 0 1 :: gR 9 1 21 220 :: gI 8 1 88 150 :: aLD 0 1 :: gR 9 2 28 223 :: gI 3 4 68 178 :: iSUB :: MMAX 91 671 :: iRET :: [] := rfl
theorem ju_110_0 : am_ju 110 0 = aLD 0 1 :: gR 3 0 9 164 :: aLD 1 1 :: gR 3 0 9 164 :: CALL 71 2 1 38 684 :: aLD 0 1 :: gR 3 1 15 167 :: aLD 1 1 :: gR 3 1 15 167 :: CALL 71 2 1 38 684 :: aLD 0 1 :: gR 3 2 18 170 :: aLD 1 1 :: gR 3 2 18 170 :: CALL 71 2 1 38 684 :: aLD 0 1 :: gR 3 3 21 173 :: aLD 1 1 :: gR 3 3 21 173 :: CALL 71 2 1 38 684 :: aLD 0 1 :: aLD 1 1 :: gI 3 4 24 176 :: pI 3 4 24 176 :: aLD 0 1 :: aLD 1 1 :: gI 3 5 28 180 :: pI 3 5 28 180 :: vRET :: [] := rfl
theorem ju_111_0 : am_ju 111 0 = aLD 0 1 :: gR 5 0 11 204 :: aLD 0 1 :: gI 5 1 17 205 :: aALD :: aLD 1 1 :: CALL 110 2 2 25 680 :: aLD 0 1 :: aLD 0 1 :: gI 5 1 17 205 :: iCONST 1 :: iADD :: bPUSH 8 :: iREM :: pI 5 1 17 205 :: aLD 0 1 :: aLD 0 1 :: gI 5 2 21 206 :: iCONST 1 :: iADD :: bPUSH 8 :: MMIN 29 685 :: pI 5 2 21 206 :: vRET :: [] := rfl
theorem ju_112_0 : am_ju 112 0 = aLD 0 1 :: aLD 0 1 :: gI 3 5 28 180 :: LDC 1103515245 35 691 :: iMUL :: sPUSH 12345 :: iADD :: LDC 2147483647 36 692 :: iAND :: pI 3 5 28 180 :: aLD 0 1 :: gI 3 5 28 180 :: LDC 65536 37 693 :: iDIV :: bPUSH 8 :: iREM :: iRET :: [] := rfl
theorem ju_113_0 : am_ju 113 0 = aLD 0 1 :: iLD 1 1 :: CALL 100 2 2 19 662 :: TSW [1, 3, 10, 4, 6, 8] :: am_ju 113 4 := rfl
theorem ju_113_4 : am_ju 113 4 = iCONST 2 :: iRET :: am_ju 113 6 := rfl
theorem ju_113_6 : am_ju 113 6 = iCONST 3 :: iRET :: am_ju 113 8 := rfl
theorem ju_113_8 : am_ju 113 8 = iLD 2 1 :: iRET :: am_ju 113 10 := rfl
theorem ju_113_10 : am_ju 113 10 = iCONST 0 :: iRET :: [] := rfl
theorem ju_114_0 : am_ju 114 0 = aLD 0 1 :: gI 0 4 24 257 :: IFC 1 4 :: vRET :: am_ju 114 4 := rfl
theorem ju_114_4 : am_ju 114 4 = aLD 0 1 :: sPUSH 999 :: aLD 0 1 :: gI 0 1 15 247 :: aLD 0 1 :: gI 0 6 30 261 :: iADD :: MMIN 77 708 :: pI 0 1 15 247 :: aLD 0 1 :: sPUSH 999 :: aLD 0 1 :: gI 0 2 18 251 :: iLD 1 1 :: iCONST 4 :: ICMP 1 22 :: iCONST 2 :: GOTO 26 :: am_ju 114 22 := rfl
theorem ju_114_22 : am_ju 114 22 = iCONST 1 :: aLD 0 1 :: gI 0 7 33 262 :: iADD :: am_ju 114 26 := rfl
theorem ju_114_26 : am_ju 114 26 = iADD :: MMIN 77 708 :: pI 0 2 18 251 :: vRET :: [] := rfl
theorem ju_115_0 : am_ju 115 0 = iLD 1 1 :: iCONST 4 :: ICMP 1 5 :: iCONST (-1) :: iRET :: am_ju 115 5 := rfl
theorem ju_115_5 : am_ju 115 5 = iCONST 0 :: iST 3 1 :: am_ju 115 7 := rfl
theorem ju_115_7 : am_ju 115 7 = iLD 3 1 :: iCONST 4 :: ICMP 3 27 :: aLD 0 1 :: gI 0 3 21 254 :: iLD 3 1 :: CALL 29 2 1 67 713 :: IFC 1 25 :: aLD 0 1 :: iLD 3 1 :: iLD 2 1 :: CALL 56 3 2 71 714 :: aLD 0 1 :: iLD 3 1 :: CALL 51 2 2 74 715 :: ICMP 5 25 :: iLD 3 1 :: iRET :: am_ju 115 25 := rfl
theorem ju_115_25 : am_ju 115 25 = IINC 3 1 :: GOTO 7 :: am_ju 115 27 := rfl
theorem ju_115_27 : am_ju 115 27 = iCONST (-1) :: iRET :: [] := rfl
theorem ju_116_0 : am_ju 116 0 = iLD 0 1 :: iLD 0 1 :: iNEG :: iAND :: iRET :: [] := rfl
theorem ju_117_0 : am_ju 117 0 = iLD 1 1 :: iCONST 3 :: ICMP 1 7 :: aLD 0 1 :: gI 0 4 24 257 :: CALL 116 1 0 94 720 :: iRET :: am_ju 117 7 := rfl
theorem ju_117_7 : am_ju 117 7 = aLD 0 1 :: gI 0 3 21 254 :: CALL 30 1 1 97 723 :: IFC 0 14 :: aLD 0 1 :: gI 0 4 24 257 :: GOTO 15 :: am_ju 117 14 := rfl
theorem ju_117_14 : am_ju 117 14 = iCONST 0 :: am_ju 117 15 := rfl
theorem ju_117_15 : am_ju 117 15 = iRET :: [] := rfl
theorem ju_118_0 : am_ju 118 0 = aLD 0 1 :: gI 0 4 24 257 :: IFC 1 5 :: iCONST 0 :: iRET :: am_ju 118 5 := rfl
theorem ju_118_5 : am_ju 118 5 = aLD 0 1 :: iLD 2 1 :: CALL 114 2 2 80 704 :: aLD 0 1 :: iLD 2 1 :: iLD 3 1 :: CALL 115 3 2 84 709 :: iST 4 0 :: iLD 4 0 :: IFC 3 17 :: iCONST 0 :: iRET :: am_ju 118 17 := rfl
theorem ju_118_17 : am_ju 118 17 = aLD 0 1 :: DUP :: gI 0 3 21 254 :: iCONST 1 :: iLD 4 0 :: iSHL :: iOR :: pI 0 3 21 254 :: aLD 0 1 :: iLD 4 0 :: CALL 117 2 2 87 716 :: iST 5 0 :: iLD 5 0 :: IFC 0 40 :: aLD 0 1 :: aLD 1 1 :: aLD 0 1 :: gI 0 4 24 257 :: iLD 5 0 :: iCONST (-1) :: iXOR :: iAND :: CALL 41 3 2 90 724 :: am_ju 118 40 := rfl
theorem ju_118_40 : am_ju 118 40 = iLD 5 0 :: iRET :: [] := rfl
set_option maxRecDepth 100000 in
theorem ju_119_0 : am_ju 119 0 = aLD 0 1 :: gR 9 3 35 226 :: aLD 0 1 :: gR 9 2 28 223 :: CALL 111 2 2 146 676 :: aLD 0 1 :: gR 9 1 21 220 :: aLD 0 1 :: gR 9 2 28 223 :: gI 3 4 68 178 :: CALL 100 2 2 149 686 :: iST 2 1 :: iLD 2 1 :: iCONST 3 :: ICMP 1 19 :: aLD 0 1 :: gR 9 2 28 223 :: CALL 112 1 2 152 687 :: GOTO 26 :: am_ju 119 19 := rfl
set_option maxRecDepth 100000 in
theorem ju_119_19 : am_ju 119 19 = aLD 0 1 :: gR 9 1 21 220 :: aLD 0 1 :: gR 9 2 28 223 :: gI 3 4 68 178 :: iCONST 0 :: CALL 113 3 2 155 694 :: am_ju 119 26 := rfl
set_option maxRecDepth 100000 in
theorem ju_119_26 : am_ju 119 26 = iST 3 1 :: iCONST 0 :: iST 4 0 :: iCONST 0 :: iST 5 0 :: am_ju 119 31 := rfl
set_option maxRecDepth 100000 in
theorem ju_119_31 : am_ju 119 31 = iLD 5 0 :: aLD 0 1 :: gR 9 0 12 216 :: gI 2 6 39 113 :: ICMP 3 75 :: aLD 0 1 :: aLD 1 1 :: iLD 5 0 :: aLD 0 1 :: iLD 5 0 :: CALL 39 2 2 158 698 :: CALL 42 4 2 161 699 :: iLD 4 0 :: aLD 1 1 :: aLD 0 1 :: gR 9 0 12 216 :: iLD 2 1 :: iLD 3 1 :: CALL 118 4 2 165 700 :: iOR :: iST 4 0 :: aLD 0 1 :: gR 9 2 28 223 :: gR 3 0 130 166 :: iLD 5 0 :: aLD 1 1 :: gI 0 1 133 249 :: iAST :: aLD 0 1 :: gR 9 2 28 223 :: gR 3 1 135 169 :: iLD 5 0 :: aLD 1 1 :: gI 0 2 138 253 :: iAST :: aLD 0 1 :: gR 9 2 28 223 :: gR 3 2 114 172 :: iLD 5 0 :: aLD 1 1 :: gI 0 3 140 256 :: iAST :: IINC 5 1 :: GOTO 31 :: am_ju 119 75 := rfl
set_option maxRecDepth 100000 in
theorem ju_119_75 : am_ju 119 75 = iCONST 0 :: iST 5 0 :: am_ju 119 77 := rfl
set_option maxRecDepth 100000 in
theorem ju_119_77 : am_ju 119 77 = iLD 5 0 :: aLD 0 1 :: gR 9 0 12 216 :: gI 2 7 53 118 :: ICMP 3 98 :: iLD 4 0 :: iLD 5 0 :: CALL 29 2 1 169 725 :: IFC 0 96 :: aLD 0 1 :: gR 9 2 28 223 :: gR 3 3 74 174 :: iLD 5 0 :: bPUSH 10 :: aLD 0 1 :: gR 9 2 28 223 :: gI 3 4 68 178 :: iADD :: iAST :: am_ju 119 96 := rfl
set_option maxRecDepth 100000 in
theorem ju_119_96 : am_ju 119 96 = IINC 5 1 :: GOTO 77 :: am_ju 119 98 := rfl
set_option maxRecDepth 100000 in
theorem ju_119_98 : am_ju 119 98 = aLD 0 1 :: gR 9 2 28 223 :: DUP :: gI 3 4 68 178 :: iCONST 1 :: iADD :: pI 3 4 68 178 :: iLD 4 0 :: iRET :: [] := rfl
theorem ju_120_0 : am_ju 120 0 = aLD 0 1 :: gR 10 0 59 390 :: CALL 109 1 2 228 667 :: IFC 1 6 :: bPUSH (-2) :: iRET :: am_ju 120 6 := rfl
theorem ju_120_6 : am_ju 120 6 = aLD 0 1 :: gR 10 0 59 390 :: aLD 0 1 :: gR 10 5 23 395 :: CALL 119 2 2 231 672 :: iRET :: [] := rfl
set_option maxRecDepth 100000 in
theorem ju_121_0 : am_ju 121 0 = aLD 0 1 :: gR 11 0 7 1021 :: iCONST 5 :: iALD :: bPUSH 8 :: ICMP 1 31 :: bPUSH 86 :: iST 1 1 :: am_ju 121 8 := rfl
set_option maxRecDepth 100000 in
theorem ju_121_8 : am_ju 121 8 = iLD 1 1 :: sPUSH 219 :: ICMP 3 23 :: aLD 0 1 :: gR 11 0 7 1021 :: iLD 1 1 :: aLD 0 1 :: gR 11 0 7 1021 :: iLD 1 1 :: bPUSH 19 :: iADD :: iALD :: iAST :: IINC 1 1 :: GOTO 8 :: am_ju 121 23 := rfl
set_option maxRecDepth 100000 in
theorem ju_121_23 : am_ju 121 23 = aLD 0 1 :: gR 11 0 7 1021 :: iCONST 5 :: DUP2 :: iALD :: iCONST 1 :: iSUB :: iAST :: am_ju 121 31 := rfl
set_option maxRecDepth 100000 in
theorem ju_121_31 : am_ju 121 31 = bPUSH 86 :: bPUSH 19 :: aLD 0 1 :: gR 11 0 7 1021 :: iCONST 5 :: iALD :: iMUL :: iADD :: iST 1 1 :: aLD 0 1 :: gR 11 0 7 1021 :: iLD 1 1 :: aLD 0 1 :: gR 11 0 7 1021 :: iCONST 3 :: iALD :: iAST :: aLD 0 1 :: gR 11 0 7 1021 :: iLD 1 1 :: iCONST 1 :: iADD :: aLD 0 1 :: gR 11 0 7 1021 :: iCONST 4 :: iALD :: iAST :: iCONST 0 :: iST 2 1 :: am_ju 121 60 := rfl
set_option maxRecDepth 100000 in
theorem ju_121_60 : am_ju 121 60 = iLD 2 1 :: iCONST 3 :: ICMP 3 116 :: aLD 0 1 :: gR 11 0 7 1021 :: iLD 1 1 :: iCONST 2 :: iADD :: iCONST 3 :: iLD 2 1 :: iMUL :: iADD :: aLD 0 1 :: gR 11 0 7 1021 :: iLD 2 1 :: CALL 18 1 0 51 1089 :: iCONST 1 :: iADD :: iALD :: iAST :: aLD 0 1 :: gR 11 0 7 1021 :: iLD 1 1 :: iCONST 3 :: iADD :: iCONST 3 :: iLD 2 1 :: iMUL :: iADD :: aLD 0 1 :: gR 11 0 7 1021 :: iLD 2 1 :: CALL 18 1 0 51 1089 :: iCONST 2 :: iADD :: iALD :: iAST :: aLD 0 1 :: gR 11 0 7 1021 :: iLD 1 1 :: iCONST 4 :: iADD :: iCONST 3 :: iLD 2 1 :: iMUL :: iADD :: aLD 0 1 :: gR 11 0 7 1021 :: iLD 2 1 :: CALL 18 1 0 51 1089 :: iCONST 3 :: iADD :: iALD :: iAST :: IINC 2 1 :: GOTO 60 :: am_ju 121 116 := rfl
set_option maxRecDepth 100000 in
theorem ju_121_116 : am_ju 121 116 = iCONST 0 :: iST 2 1 :: am_ju 121 118 := rfl
set_option maxRecDepth 100000 in
theorem ju_121_118 : am_ju 121 118 = iLD 2 1 :: bPUSH 8 :: ICMP 3 138 :: aLD 0 1 :: gR 11 0 7 1021 :: iLD 1 1 :: bPUSH 11 :: iADD :: iLD 2 1 :: iADD :: aLD 0 1 :: gR 11 0 7 1021 :: iLD 2 1 :: CALL 25 1 0 59 1096 :: iCONST 5 :: iADD :: iALD :: iAST :: IINC 2 1 :: GOTO 118 :: am_ju 121 138 := rfl
set_option maxRecDepth 100000 in
theorem ju_121_138 : am_ju 121 138 = aLD 0 1 :: gR 11 0 7 1021 :: iCONST 5 :: DUP2 :: iALD :: iCONST 1 :: iADD :: iAST :: vRET :: [] := rfl
theorem ju_122_0 : am_ju 122 0 = iLD 0 1 :: iLD 1 1 :: ICMP 3 5 :: iLD 0 1 :: GOTO 6 :: am_ju 122 5 := rfl
theorem ju_122_5 : am_ju 122 5 = iLD 1 1 :: am_ju 122 6 := rfl
theorem ju_122_6 : am_ju 122 6 = iRET :: [] := rfl
theorem ju_123_0 : am_ju 123 0 = iLD 1 1 :: CALL 18 1 0 51 1089 :: iST 3 1 :: aLD 0 1 :: iLD 3 1 :: iCONST 1 :: iADD :: sPUSH 999 :: aLD 0 1 :: iLD 3 1 :: iCONST 1 :: iADD :: iALD :: aLD 0 1 :: iLD 1 1 :: iCONST 1 :: CALL 46 3 0 80 1129 :: iADD :: CALL 122 2 0 150 1249 :: iAST :: aLD 0 1 :: iLD 3 1 :: iCONST 2 :: iADD :: sPUSH 999 :: aLD 0 1 :: iLD 3 1 :: iCONST 2 :: iADD :: iALD :: iLD 2 1 :: iCONST 4 :: ICMP 1 35 :: iCONST 2 :: GOTO 41 :: am_ju 123 35 := rfl
theorem ju_123_35 : am_ju 123 35 = iCONST 1 :: aLD 0 1 :: iLD 1 1 :: iCONST 2 :: CALL 46 3 0 80 1129 :: iADD :: am_ju 123 41 := rfl
theorem ju_123_41 : am_ju 123 41 = iADD :: CALL 122 2 0 150 1249 :: iAST :: vRET :: [] := rfl
theorem ju_124_0 : am_ju 124 0 = iCONST 0 :: iST 3 1 :: am_ju 124 2 := rfl
theorem ju_124_2 : am_ju 124 2 = iLD 3 1 :: iCONST 4 :: ICMP 3 34 :: aLD 0 1 :: iLD 1 1 :: CALL 18 1 0 51 1089 :: iCONST 3 :: iADD :: iALD :: iLD 3 1 :: CALL 34 2 0 62 1115 :: IFC 1 16 :: iCONST 1 :: GOTO 17 :: am_ju 124 16 := rfl
theorem ju_124_16 : am_ju 124 16 = iCONST 0 :: am_ju 124 17 := rfl
theorem ju_124_17 : am_ju 124 17 = iST 4 0 :: iLD 4 0 :: IFC 0 32 :: aLD 0 1 :: iLD 1 1 :: iLD 3 1 :: iLD 2 1 :: CALL 58 4 0 90 1146 :: aLD 0 1 :: iLD 1 1 :: iLD 3 1 :: CALL 53 3 0 87 1139 :: ICMP 5 32 :: iLD 3 1 :: iRET :: am_ju 124 32 := rfl
theorem ju_124_32 : am_ju 124 32 = IINC 3 1 :: GOTO 2 :: am_ju 124 34 := rfl
theorem ju_124_34 : am_ju 124 34 = iCONST (-1) :: iRET :: [] := rfl
theorem ju_125_0 : am_ju 125 0 = aLD 0 1 :: iLD 1 1 :: CALL 45 2 0 76 1126 :: iST 3 1 :: iLD 2 1 :: iCONST 3 :: ICMP 1 12 :: iLD 3 1 :: iLD 3 1 :: iNEG :: iAND :: iRET :: am_ju 125 12 := rfl
theorem ju_125_12 : am_ju 125 12 = aLD 0 1 :: iLD 1 1 :: CALL 18 1 0 51 1089 :: iCONST 3 :: iADD :: iALD :: iST 4 0 :: iLD 4 0 :: iCONST 0 :: CALL 34 2 0 62 1115 :: IFC 1 31 :: iLD 4 0 :: iCONST 1 :: CALL 34 2 0 62 1115 :: IFC 0 33 :: iLD 4 0 :: iCONST 2 :: CALL 34 2 0 62 1115 :: IFC 0 33 :: am_ju 125 31 := rfl
theorem ju_125_31 : am_ju 125 31 = iLD 3 1 :: GOTO 34 :: am_ju 125 33 := rfl
theorem ju_125_33 : am_ju 125 33 = iCONST 0 :: am_ju 125 34 := rfl
theorem ju_125_34 : am_ju 125 34 = iRET :: [] := rfl
set_option maxRecDepth 100000 in
theorem ju_126_0 : am_ju 126 0 = aLD 1 1 :: bPUSH 66 :: aLD 1 1 :: iCONST 3 :: iALD :: iADD :: iALD :: iST 3 1 :: iLD 3 1 :: iCONST 1 :: ICMP 1 13 :: iCONST 2 :: GOTO 24 :: am_ju 126 13 := rfl
set_option maxRecDepth 100000 in
theorem ju_126_13 : am_ju 126 13 = iLD 3 1 :: iCONST 2 :: ICMP 1 18 :: iCONST 3 :: GOTO 24 :: am_ju 126 18 := rfl
set_option maxRecDepth 100000 in
theorem ju_126_18 : am_ju 126 18 = iLD 3 1 :: iCONST 3 :: ICMP 1 23 :: iLD 2 1 :: GOTO 24 :: am_ju 126 23 := rfl
set_option maxRecDepth 100000 in
theorem ju_126_23 : am_ju 126 23 = iCONST 0 :: am_ju 126 24 := rfl
set_option maxRecDepth 100000 in
theorem ju_126_24 : am_ju 126 24 = iST 4 0 :: aLD 0 1 :: iCONST 0 :: pZ 11 13 153 1034 :: aLD 0 1 :: iCONST 0 :: pI 11 15 157 1036 :: iCONST 0 :: iST 5 0 :: iCONST 0 :: iST 6 0 :: am_ju 126 35 := rfl
set_option maxRecDepth 100000 in
theorem ju_126_35 : am_ju 126 35 = iLD 6 0 :: aLD 1 1 :: iCONST 0 :: iALD :: ICMP 3 127 :: aLD 1 1 :: iLD 6 0 :: CALL 45 2 0 76 1126 :: IFC 0 125 :: aLD 1 1 :: iLD 6 0 :: iLD 3 1 :: CALL 123 3 0 160 1246 :: iLD 3 1 :: iCONST 4 :: ICMP 1 53 :: iCONST (-1) :: GOTO 57 :: am_ju 126 53 := rfl
set_option maxRecDepth 100000 in
theorem ju_126_53 : am_ju 126 53 = aLD 1 1 :: iLD 6 0 :: iLD 4 0 :: CALL 124 3 0 164 1252 :: am_ju 126 57 := rfl
set_option maxRecDepth 100000 in
theorem ju_126_57 : am_ju 126 57 = iST 7 0 :: iLD 7 0 :: IFC 2 125 :: aLD 0 1 :: iCONST 1 :: pZ 11 13 153 1034 :: aLD 1 1 :: iLD 6 0 :: CALL 18 1 0 51 1089 :: iCONST 3 :: iADD :: DUP2 :: iALD :: iCONST 1 :: iLD 7 0 :: iSHL :: iOR :: iAST :: aLD 1 1 :: iLD 6 0 :: iLD 7 0 :: CALL 125 3 0 167 1255 :: iST 8 0 :: aLD 0 1 :: iLD 6 0 :: aLD 0 1 :: gI 11 14 170 1035 :: ICMP 1 87 :: iLD 8 0 :: GOTO 89 :: am_ju 126 87 := rfl
set_option maxRecDepth 100000 in
theorem ju_126_87 : am_ju 126 87 = aLD 0 1 :: gI 11 15 157 1036 :: am_ju 126 89 := rfl
set_option maxRecDepth 100000 in
theorem ju_126_89 : am_ju 126 89 = pI 11 15 157 1036 :: iLD 5 0 :: iLD 8 0 :: iOR :: iST 5 0 :: iCONST 0 :: iST 9 0 :: am_ju 126 96 := rfl
set_option maxRecDepth 100000 in
theorem ju_126_96 : am_ju 126 96 = iLD 9 0 :: aLD 1 1 :: iCONST 1 :: iALD :: ICMP 3 125 :: aLD 1 1 :: iLD 9 0 :: CALL 25 1 0 59 1096 :: iCONST 5 :: iADD :: iLD 8 0 :: iLD 9 0 :: CALL 34 2 0 62 1115 :: IFC 0 116 :: bPUSH 10 :: aLD 1 1 :: iCONST 3 :: iALD :: iADD :: GOTO 122 :: am_ju 126 116 := rfl
set_option maxRecDepth 100000 in
theorem ju_126_116 : am_ju 126 116 = aLD 1 1 :: iLD 9 0 :: CALL 25 1 0 59 1096 :: iCONST 5 :: iADD :: iALD :: am_ju 126 122 := rfl
set_option maxRecDepth 100000 in
theorem ju_126_122 : am_ju 126 122 = iAST :: IINC 9 1 :: GOTO 96 :: am_ju 126 125 := rfl
set_option maxRecDepth 100000 in
theorem ju_126_125 : am_ju 126 125 = IINC 6 1 :: GOTO 35 :: am_ju 126 127 := rfl
set_option maxRecDepth 100000 in
theorem ju_126_127 : am_ju 126 127 = aLD 1 1 :: iCONST 3 :: DUP2 :: iALD :: iCONST 1 :: iADD :: iAST :: iLD 5 0 :: iRET :: [] := rfl
theorem ju_127_0 : am_ju 127 0 = aLD 0 1 :: gR 11 0 7 1021 :: iCONST 3 :: iALD :: aLD 0 1 :: gR 11 0 7 1021 :: iCONST 2 :: iALD :: ICMP 1 11 :: bPUSH (-2) :: iRET :: am_ju 127 11 := rfl
theorem ju_127_11 : am_ju 127 11 = aLD 0 1 :: CALL 121 1 2 173 1234 :: iCONST 0 :: iST 1 1 :: aLD 0 1 :: gR 11 0 7 1021 :: bPUSH 66 :: aLD 0 1 :: gR 11 0 7 1021 :: iCONST 3 :: iALD :: iADD :: iALD :: iCONST 3 :: ICMP 1 51 :: aLD 0 1 :: gR 11 0 7 1021 :: iCONST 4 :: aLD 0 1 :: gR 11 0 7 1021 :: iCONST 4 :: iALD :: ITL :: LDC2 1103515245 176 1238 :: lMUL :: LDC2 12345 178 1239 :: lADD :: LDC2 2147483647 180 1240 :: lAND :: LTI :: iAST :: aLD 0 1 :: gR 11 0 7 1021 :: iCONST 4 :: iALD :: LDC 65536 182 1241 :: iDIV :: bPUSH 8 :: iREM :: iST 1 1 :: am_ju 127 51 := rfl
theorem ju_127_51 : am_ju 127 51 = aLD 0 1 :: iCONST (-1) :: pI 11 14 170 1035 :: aLD 0 1 :: aLD 0 1 :: gR 11 0 7 1021 :: iLD 1 1 :: CALL 126 3 2 183 1242 :: iRET :: [] := rfl
theorem ju_128_0 : am_ju 128 0 = aLD 0 1 :: gI 5 2 21 206 :: IFC 1 4 :: vRET :: am_ju 128 4 := rfl
theorem ju_128_4 : am_ju 128 4 = aLD 0 1 :: aLD 0 1 :: gI 5 1 17 205 :: bPUSH 8 :: iADD :: iCONST 1 :: iSUB :: bPUSH 8 :: iREM :: pI 5 1 17 205 :: aLD 0 1 :: DUP :: gI 5 2 21 206 :: iCONST 1 :: iSUB :: pI 5 2 21 206 :: aLD 1 1 :: aLD 0 1 :: gR 5 0 11 204 :: aLD 0 1 :: gI 5 1 17 205 :: aALD :: CALL 110 2 2 25 680 :: vRET :: [] := rfl
theorem ju_129_0 : am_ju 129 0 = aLD 0 1 :: gR 10 0 59 390 :: gR 9 3 216 227 :: gI 5 2 220 208 :: IFC 1 7 :: bPUSH (-4) :: iRET :: am_ju 129 7 := rfl
theorem ju_129_7 : am_ju 129 7 = aLD 0 1 :: gR 10 0 59 390 :: gR 9 3 216 227 :: aLD 0 1 :: gR 10 0 59 390 :: gR 9 2 107 225 :: CALL 128 2 2 235 730 :: aLD 0 1 :: gR 10 0 59 390 :: gR 9 3 216 227 :: gI 5 2 220 208 :: iRET :: [] := rfl
set_option maxRecDepth 100000 in
theorem ju_130_0 : am_ju 130 0 = aLD 0 1 :: gR 11 0 7 1021 :: iCONST 5 :: iALD :: IFC 1 7 :: bPUSH (-4) :: iRET :: am_ju 130 7 := rfl
set_option maxRecDepth 100000 in
theorem ju_130_7 : am_ju 130 7 = aLD 0 1 :: gR 11 0 7 1021 :: iCONST 5 :: DUP2 :: iALD :: iCONST 1 :: iSUB :: iAST :: bPUSH 86 :: bPUSH 19 :: aLD 0 1 :: gR 11 0 7 1021 :: iCONST 5 :: iALD :: iMUL :: iADD :: iST 1 1 :: aLD 0 1 :: gR 11 0 7 1021 :: iCONST 3 :: aLD 0 1 :: gR 11 0 7 1021 :: iLD 1 1 :: iALD :: iAST :: aLD 0 1 :: gR 11 0 7 1021 :: iCONST 4 :: aLD 0 1 :: gR 11 0 7 1021 :: iLD 1 1 :: iCONST 1 :: iADD :: iALD :: iAST :: iCONST 0 :: iST 2 1 :: am_ju 130 44 := rfl
set_option maxRecDepth 100000 in
theorem ju_130_44 : am_ju 130 44 = iLD 2 1 :: iCONST 3 :: ICMP 3 100 :: aLD 0 1 :: gR 11 0 7 1021 :: iLD 2 1 :: CALL 18 1 0 51 1089 :: iCONST 1 :: iADD :: aLD 0 1 :: gR 11 0 7 1021 :: iLD 1 1 :: iCONST 2 :: iADD :: iCONST 3 :: iLD 2 1 :: iMUL :: iADD :: iALD :: iAST :: aLD 0 1 :: gR 11 0 7 1021 :: iLD 2 1 :: CALL 18 1 0 51 1089 :: iCONST 2 :: iADD :: aLD 0 1 :: gR 11 0 7 1021 :: iLD 1 1 :: iCONST 3 :: iADD :: iCONST 3 :: iLD 2 1 :: iMUL :: iADD :: iALD :: iAST :: aLD 0 1 :: gR 11 0 7 1021 :: iLD 2 1 :: CALL 18 1 0 51 1089 :: iCONST 3 :: iADD :: aLD 0 1 :: gR 11 0 7 1021 :: iLD 1 1 :: iCONST 4 :: iADD :: iCONST 3 :: iLD 2 1 :: iMUL :: iADD :: iALD :: iAST :: IINC 2 1 :: GOTO 44 :: am_ju 130 100 := rfl
set_option maxRecDepth 100000 in
theorem ju_130_100 : am_ju 130 100 = iCONST 0 :: iST 2 1 :: am_ju 130 102 := rfl
set_option maxRecDepth 100000 in
theorem ju_130_102 : am_ju 130 102 = iLD 2 1 :: bPUSH 8 :: ICMP 3 122 :: aLD 0 1 :: gR 11 0 7 1021 :: iLD 2 1 :: CALL 25 1 0 59 1096 :: iCONST 5 :: iADD :: aLD 0 1 :: gR 11 0 7 1021 :: iLD 1 1 :: bPUSH 11 :: iADD :: iLD 2 1 :: iADD :: iALD :: iAST :: IINC 2 1 :: GOTO 102 :: am_ju 130 122 := rfl
set_option maxRecDepth 100000 in
theorem ju_130_122 : am_ju 130 122 = aLD 0 1 :: gR 11 0 7 1021 :: iCONST 5 :: iALD :: iRET :: [] := rfl
theorem ju_131_0 : am_ju 131 0 = aLD 0 1 :: gR 10 0 59 390 :: gR 9 2 107 225 :: gI 3 4 205 179 :: iST 1 1 :: aLD 0 1 :: gR 10 0 59 390 :: gR 9 2 107 225 :: iCONST 0 :: pI 3 4 205 179 :: iLD 1 1 :: iRET :: [] := rfl
theorem ju_132_0 : am_ju 132 0 = aLD 0 1 :: gR 11 0 7 1021 :: iCONST 3 :: iALD :: iST 1 1 :: aLD 0 1 :: gR 11 0 7 1021 :: iCONST 3 :: iCONST 0 :: iAST :: iLD 1 1 :: iRET :: [] := rfl
theorem ju_133_0 : am_ju 133 0 = iLD 1 1 :: IFC 3 4 :: iCONST (-1) :: iRET :: am_ju 133 4 := rfl
theorem ju_133_4 : am_ju 133 4 = aLD 0 1 :: gR 10 0 59 390 :: gR 9 2 107 225 :: gI 3 5 239 181 :: iST 2 1 :: aLD 0 1 :: gR 10 0 59 390 :: gR 9 2 107 225 :: iLD 1 1 :: pI 3 5 239 181 :: iLD 2 1 :: iRET :: [] := rfl
theorem ju_134_0 : am_ju 134 0 = iLD 1 1 :: IFC 3 4 :: iCONST (-1) :: iRET :: am_ju 134 4 := rfl
theorem ju_134_4 : am_ju 134 4 = aLD 0 1 :: gR 11 0 7 1021 :: iCONST 4 :: iALD :: iST 2 1 :: aLD 0 1 :: gR 11 0 7 1021 :: iCONST 4 :: iLD 1 1 :: iAST :: iLD 2 1 :: iRET :: [] := rfl
theorem ju_135_0 : am_ju 135 0 = aLD 0 1 :: gI 0 4 24 257 :: IFC 1 5 :: bPUSH 99 :: iRET :: am_ju 135 5 := rfl
theorem ju_135_5 : am_ju 135 5 = iLD 2 1 :: iST 4 0 :: am_ju 135 7 := rfl
theorem ju_135_7 : am_ju 135 7 = iLD 4 0 :: aLD 1 1 :: gI 8 1 101 151 :: ICMP 3 30 :: aLD 1 1 :: iLD 4 0 :: CALL 100 2 2 106 756 :: iST 5 0 :: aLD 0 1 :: iLD 5 0 :: CALL 114 2 2 80 704 :: aLD 0 1 :: iLD 5 0 :: aLD 1 1 :: iLD 4 0 :: iLD 3 1 :: CALL 113 3 2 109 757 :: CALL 115 3 2 84 709 :: IFC 2 28 :: iLD 4 0 :: iRET :: am_ju 135 28 := rfl
theorem ju_135_28 : am_ju 135 28 = IINC 4 1 :: GOTO 7 :: am_ju 135 30 := rfl
theorem ju_135_30 : am_ju 135 30 = bPUSH 99 :: iRET :: [] := rfl
theorem ju_136_0 : am_ju 136 0 = bPUSH 99 :: iST 3 1 :: iCONST 0 :: iST 4 0 :: am_ju 136 4 := rfl
theorem ju_136_4 : am_ju 136 4 = iLD 4 0 :: aLD 0 1 :: gR 4 0 44 334 :: gR 9 0 71 218 :: gI 2 6 75 115 :: ICMP 3 43 :: aLD 0 1 :: gR 4 0 44 334 :: aLD 0 1 :: gR 4 1 12 335 :: iLD 4 0 :: aLD 0 1 :: gR 4 0 44 334 :: iLD 4 0 :: CALL 39 2 2 80 750 :: CALL 42 4 2 48 751 :: iLD 4 0 :: iLD 2 1 :: ICMP 1 27 :: aLD 0 1 :: gR 4 1 12 335 :: iCONST 1 :: pI 0 0 84 244 :: am_ju 136 27 := rfl
theorem ju_136_27 : am_ju 136 27 = iLD 3 1 :: aLD 0 1 :: gR 4 1 12 335 :: aLD 0 1 :: gR 4 0 44 334 :: gR 9 1 54 221 :: aLD 0 1 :: gR 4 0 44 334 :: gR 9 2 58 224 :: gI 3 4 62 177 :: iLD 1 1 :: CALL 135 4 2 67 752 :: MMIN 87 758 :: iST 3 1 :: IINC 4 1 :: GOTO 4 :: am_ju 136 43 := rfl
theorem ju_136_43 : am_ju 136 43 = iLD 3 1 :: iRET :: [] := rfl
theorem ju_137_0 : am_ju 137 0 = iLD 0 1 :: bPUSH 99 :: ICMP 1 5 :: bPUSH (-4) :: GOTO 6 :: am_ju 137 5 := rfl
theorem ju_137_5 : am_ju 137 5 = iLD 0 1 :: am_ju 137 6 := rfl
theorem ju_137_6 : am_ju 137 6 = iRET :: [] := rfl
theorem ju_138_0 : am_ju 138 0 = iLD 1 1 :: bPUSH 8 :: CALL 12 2 0 78 428 :: IFC 1 6 :: iCONST (-1) :: iRET :: am_ju 138 6 := rfl
theorem ju_138_6 : am_ju 138 6 = aLD 0 1 :: gR 10 3 67 393 :: iLD 1 1 :: bPUSH (-4) :: CALL 136 3 2 242 746 :: CALL 137 1 0 245 759 :: iRET :: [] := rfl
theorem ju_139_0 : am_ju 139 0 = aLD 0 1 :: gR 11 1 13 1022 :: iCONST 3 :: iALD :: aLD 0 1 :: gR 11 1 13 1022 :: iCONST 2 :: iALD :: ICMP 3 25 :: aLD 0 1 :: aLD 0 1 :: gR 11 1 13 1022 :: iLD 1 1 :: CALL 126 3 2 183 1242 :: POP :: aLD 0 1 :: gI 11 13 153 1034 :: IFC 0 0 :: aLD 0 1 :: gR 11 1 13 1022 :: iCONST 3 :: iALD :: iCONST 1 :: iSUB :: iRET :: am_ju 139 25 := rfl
theorem ju_139_25 : am_ju 139 25 = aLD 0 1 :: gR 11 1 13 1022 :: iCONST 2 :: iALD :: iRET :: [] := rfl
theorem ju_140_0 : am_ju 140 0 = iLD 1 1 :: aLD 0 1 :: gR 11 0 7 1021 :: iCONST 2 :: iALD :: ICMP 1 8 :: bPUSH (-4) :: GOTO 9 :: am_ju 140 8 := rfl
theorem ju_140_8 : am_ju 140 8 = iLD 1 1 :: am_ju 140 9 := rfl
theorem ju_140_9 : am_ju 140 9 = iRET :: [] := rfl
theorem ju_141_0 : am_ju 141 0 = iLD 1 1 :: iCONST 0 :: bPUSH 7 :: CALL 17 3 0 47 1083 :: IFC 1 7 :: iCONST (-1) :: iRET :: am_ju 141 7 := rfl
theorem ju_141_7 : am_ju 141 7 = aLD 0 1 :: gR 11 0 7 1021 :: aLD 0 1 :: gR 11 1 13 1022 :: CALL 90 2 0 137 1180 :: aLD 0 1 :: aLD 0 1 :: iLD 1 1 :: CALL 139 2 2 186 1274 :: CALL 140 2 2 189 1278 :: iRET :: [] := rfl
theorem ju_142_0 : am_ju 142 0 = iCONST 0 :: iST 1 1 :: am_ju 142 2 := rfl
theorem ju_142_2 : am_ju 142 2 = iLD 1 1 :: bPUSH 8 :: ICMP 3 14 :: aLD 0 1 :: iCONST 3 :: iLD 1 1 :: CALL 115 3 2 84 709 :: IFC 2 12 :: iLD 1 1 :: iRET :: am_ju 142 12 := rfl
theorem ju_142_12 : am_ju 142 12 = IINC 1 1 :: GOTO 2 :: am_ju 142 14 := rfl
theorem ju_142_14 : am_ju 142 14 = bPUSH 8 :: iRET :: [] := rfl
theorem ju_143_0 : am_ju 143 0 = aLD 0 1 :: gR 4 0 44 334 :: gR 9 1 54 221 :: aST 2 1 :: aLD 0 1 :: gR 4 0 44 334 :: aLD 0 1 :: gR 4 1 12 335 :: iLD 1 1 :: aLD 0 1 :: gR 4 0 44 334 :: iLD 1 1 :: CALL 39 2 2 80 750 :: CALL 42 4 2 48 751 :: aLD 0 1 :: gR 4 0 44 334 :: gR 9 2 58 224 :: gI 3 4 62 177 :: iST 3 1 :: am_ju 143 19 := rfl
theorem ju_143_19 : am_ju 143 19 = iLD 3 1 :: aLD 2 1 :: gI 8 1 106 149 :: ICMP 3 63 :: aLD 2 1 :: iLD 3 1 :: CALL 100 2 2 97 770 :: iST 4 0 :: aLD 0 1 :: gR 4 1 12 335 :: iLD 4 0 :: CALL 114 2 2 109 775 :: iLD 4 0 :: iCONST 3 :: ICMP 1 47 :: aLD 0 1 :: gR 4 3 22 338 :: iLD 3 1 :: aLD 0 1 :: gR 4 3 22 338 :: iLD 3 1 :: iALD :: aLD 0 1 :: gR 4 1 12 335 :: CALL 142 1 2 112 776 :: MMIN 87 758 :: iAST :: GOTO 61 :: am_ju 143 47 := rfl
theorem ju_143_47 : am_ju 143 47 = aLD 0 1 :: gR 4 1 12 335 :: iLD 4 0 :: aLD 2 1 :: iLD 3 1 :: iCONST 0 :: CALL 113 3 2 116 780 :: CALL 115 3 2 119 781 :: IFC 2 61 :: aLD 0 1 :: gR 4 3 22 338 :: iLD 3 1 :: iCONST 0 :: iAST :: am_ju 143 61 := rfl
theorem ju_143_61 : am_ju 143 61 = IINC 3 1 :: GOTO 19 :: am_ju 143 63 := rfl
theorem ju_143_63 : am_ju 143 63 = vRET :: [] := rfl
theorem ju_144_0 : am_ju 144 0 = aLD 0 1 :: gR 4 0 44 334 :: gR 9 1 54 221 :: aST 1 1 :: iCONST 0 :: iST 2 1 :: am_ju 144 6 := rfl
theorem ju_144_6 : am_ju 144 6 = iLD 2 1 :: bPUSH 20 :: ICMP 3 23 :: aLD 0 1 :: gR 4 3 22 338 :: iLD 2 1 :: aLD 1 1 :: iLD 2 1 :: CALL 100 2 2 97 770 :: iCONST 3 :: ICMP 1 19 :: bPUSH 8 :: GOTO 20 :: am_ju 144 19 := rfl
theorem ju_144_19 : am_ju 144 19 = iCONST 1 :: am_ju 144 20 := rfl
theorem ju_144_20 : am_ju 144 20 = iAST :: IINC 2 1 :: GOTO 6 :: am_ju 144 23 := rfl
theorem ju_144_23 : am_ju 144 23 = iCONST 0 :: iST 2 1 :: am_ju 144 25 := rfl
theorem ju_144_25 : am_ju 144 25 = iLD 2 1 :: aLD 0 1 :: gR 4 0 44 334 :: gR 9 0 71 218 :: gI 2 6 75 115 :: ICMP 3 36 :: aLD 0 1 :: iLD 2 1 :: CALL 143 2 2 102 771 :: IINC 2 1 :: GOTO 25 :: am_ju 144 36 := rfl
theorem ju_144_36 : am_ju 144 36 = iCONST 1 :: iST 2 1 :: aLD 0 1 :: gR 4 0 44 334 :: gR 9 2 58 224 :: gI 3 4 62 177 :: iST 3 1 :: am_ju 144 43 := rfl
theorem ju_144_43 : am_ju 144 43 = iLD 3 1 :: aLD 1 1 :: gI 8 1 106 149 :: ICMP 3 56 :: iLD 2 1 :: aLD 0 1 :: gR 4 3 22 338 :: iLD 3 1 :: iALD :: iMUL :: iST 2 1 :: IINC 3 1 :: GOTO 43 :: am_ju 144 56 := rfl
theorem ju_144_56 : am_ju 144 56 = iLD 2 1 :: iRET :: [] := rfl
theorem ju_145_0 : am_ju 145 0 = iLD 1 1 :: iCONST 2 :: CALL 12 2 0 78 428 :: IFC 1 6 :: iCONST (-1) :: iRET :: am_ju 145 6 := rfl
theorem ju_145_6 : am_ju 145 6 = aLD 0 1 :: gR 10 0 59 390 :: gR 9 1 198 222 :: aLD 0 1 :: gR 10 0 59 390 :: gR 9 2 107 225 :: gI 3 4 205 179 :: CALL 104 2 2 225 658 :: iST 2 1 :: iLD 2 1 :: iCONST 4 :: ICMP 5 20 :: bPUSH (-3) :: iRET :: am_ju 145 20 := rfl
theorem ju_145_20 : am_ju 145 20 = aLD 0 1 :: gR 10 3 67 393 :: CALL 144 1 2 248 766 :: iST 3 1 :: iCONST 1 :: iCONST 3 :: iLD 2 1 :: iMUL :: iSHL :: iST 4 0 :: am_ju 145 30 := rfl
theorem ju_145_30 : am_ju 145 30 = iLD 4 0 :: iCONST 1 :: ICMP 5 46 :: iLD 3 1 :: iCONST 2 :: iREM :: IFC 1 46 :: iLD 3 1 :: iCONST 2 :: iDIV :: iST 3 1 :: iLD 4 0 :: iCONST 2 :: iDIV :: iST 4 0 :: GOTO 30 :: am_ju 145 46 := rfl
theorem ju_145_46 : am_ju 145 46 = iLD 1 1 :: IFC 1 50 :: iLD 3 1 :: GOTO 51 :: am_ju 145 50 := rfl
theorem ju_145_50 : am_ju 145 50 = iLD 4 0 :: am_ju 145 51 := rfl
theorem ju_145_51 : am_ju 145 51 = iRET :: [] := rfl
theorem ju_146_0 : am_ju 146 0 = aLD 0 1 :: gR 11 0 7 1021 :: aLD 0 1 :: gR 11 1 13 1022 :: CALL 90 2 0 137 1180 :: iLD 1 1 :: iST 2 1 :: am_ju 146 7 := rfl
theorem ju_146_7 : am_ju 146 7 = aLD 0 1 :: gR 11 1 13 1022 :: iCONST 3 :: iALD :: aLD 0 1 :: gR 11 1 13 1022 :: iCONST 2 :: iALD :: ICMP 3 53 :: aLD 0 1 :: gR 11 1 13 1022 :: bPUSH 66 :: aLD 0 1 :: gR 11 1 13 1022 :: iCONST 3 :: iALD :: iADD :: iALD :: iCONST 3 :: ICMP 1 29 :: iCONST 1 :: GOTO 30 :: am_ju 146 29 := rfl
theorem ju_146_29 : am_ju 146 29 = iCONST 0 :: am_ju 146 30 := rfl
theorem ju_146_30 : am_ju 146 30 = iST 3 1 :: aLD 0 1 :: aLD 0 1 :: gR 11 1 13 1022 :: iLD 2 1 :: bPUSH 8 :: iREM :: CALL 126 3 2 183 1242 :: POP :: iLD 3 1 :: IFC 0 45 :: iLD 2 1 :: bPUSH 8 :: iDIV :: GOTO 46 :: am_ju 146 45 := rfl
theorem ju_146_45 : am_ju 146 45 = iLD 2 1 :: am_ju 146 46 := rfl
theorem ju_146_46 : am_ju 146 46 = iST 2 1 :: aLD 0 1 :: gI 11 13 153 1034 :: IFC 0 52 :: iCONST 0 :: zRET :: am_ju 146 52 := rfl
theorem ju_146_52 : am_ju 146 52 = GOTO 7 :: am_ju 146 53 := rfl
theorem ju_146_53 : am_ju 146 53 = iCONST 1 :: zRET :: [] := rfl
theorem ju_147_0 : am_ju 147 0 = iLD 1 1 :: iCONST 0 :: iCONST 1 :: CALL 17 3 0 47 1083 :: IFC 1 7 :: iCONST (-1) :: iRET :: am_ju 147 7 := rfl
theorem ju_147_7 : am_ju 147 7 = aLD 0 1 :: CALL 107 1 2 147 1226 :: iST 2 1 :: iLD 2 1 :: iCONST 4 :: ICMP 5 15 :: bPUSH (-3) :: iRET :: am_ju 147 15 := rfl
theorem ju_147_15 : am_ju 147 15 = iCONST 1 :: iCONST 3 :: iLD 2 1 :: iMUL :: iSHL :: iST 3 1 :: iCONST 0 :: iST 4 0 :: iCONST 0 :: iST 5 0 :: am_ju 147 25 := rfl
theorem ju_147_25 : am_ju 147 25 = iLD 5 0 :: iLD 3 1 :: ICMP 3 40 :: iLD 4 0 :: aLD 0 1 :: iLD 5 0 :: CALL 146 2 2 192 1286 :: IFC 0 35 :: iCONST 1 :: GOTO 36 :: am_ju 147 35 := rfl
theorem ju_147_35 : am_ju 147 35 = iCONST 0 :: am_ju 147 36 := rfl
theorem ju_147_36 : am_ju 147 36 = iADD :: iST 4 0 :: IINC 5 1 :: GOTO 25 :: am_ju 147 40 := rfl
theorem ju_147_40 : am_ju 147 40 = iLD 4 0 :: iST 5 0 :: iLD 3 1 :: iST 6 0 :: am_ju 147 44 := rfl
theorem ju_147_44 : am_ju 147 44 = iLD 6 0 :: IFC 0 55 :: iLD 5 0 :: iLD 6 0 :: iREM :: iST 7 0 :: iLD 6 0 :: iST 5 0 :: iLD 7 0 :: iST 6 0 :: GOTO 44 :: am_ju 147 55 := rfl
theorem ju_147_55 : am_ju 147 55 = iLD 1 1 :: IFC 1 59 :: iLD 4 0 :: GOTO 60 :: am_ju 147 59 := rfl
theorem ju_147_59 : am_ju 147 59 = iLD 3 1 :: am_ju 147 60 := rfl
theorem ju_147_60 : am_ju 147 60 = iLD 5 0 :: iDIV :: iRET :: [] := rfl
theorem ju_148_0 : am_ju 148 0 = iCONST 0 :: iST 1 1 :: am_ju 148 2 := rfl
theorem ju_148_2 : am_ju 148 2 = iLD 1 1 :: aLD 0 1 :: gR 9 0 12 216 :: gI 2 6 39 113 :: ICMP 3 18 :: aLD 0 1 :: gR 9 2 28 223 :: gR 3 2 114 172 :: iLD 1 1 :: iALD :: CALL 30 1 1 117 790 :: IFC 0 16 :: iCONST 1 :: zRET :: am_ju 148 16 := rfl
theorem ju_148_16 : am_ju 148 16 = IINC 1 1 :: GOTO 2 :: am_ju 148 18 := rfl
theorem ju_148_18 : am_ju 148 18 = iCONST 0 :: zRET :: [] := rfl
theorem ju_149_0 : am_ju 149 0 = iCONST 1 :: aLD 0 1 :: gR 9 0 12 216 :: gI 2 7 53 118 :: iSHL :: iCONST 1 :: iSUB :: aLD 0 1 :: CALL 103 1 2 96 795 :: iCONST (-1) :: iXOR :: iAND :: iRET :: [] := rfl
theorem ju_150_0 : am_ju 150 0 = aLD 0 1 :: gR 4 0 44 334 :: CALL 149 1 2 144 804 :: iST 1 1 :: aLD 0 1 :: iCONST 0 :: pI 4 5 28 340 :: iCONST 0 :: iST 2 1 :: am_ju 150 9 := rfl
theorem ju_150_9 : am_ju 150 9 = iLD 2 1 :: bPUSH 8 :: ICMP 3 34 :: aLD 0 1 :: gI 4 5 28 340 :: bPUSH 6 :: ICMP 3 34 :: iLD 1 1 :: iLD 2 1 :: CALL 29 2 1 147 805 :: IFC 0 32 :: aLD 0 1 :: gR 4 4 25 339 :: aLD 0 1 :: gI 4 5 28 340 :: iLD 2 1 :: iAST :: aLD 0 1 :: DUP :: gI 4 5 28 340 :: iCONST 1 :: iADD :: pI 4 5 28 340 :: am_ju 150 32 := rfl
theorem ju_150_32 : am_ju 150 32 = IINC 2 1 :: GOTO 9 :: am_ju 150 34 := rfl
theorem ju_150_34 : am_ju 150 34 = vRET :: [] := rfl
theorem ju_151_0 : am_ju 151 0 = aLD 0 1 :: gR 4 0 44 334 :: aLD 0 1 :: gR 4 1 12 335 :: iLD 1 1 :: iLD 2 1 :: CALL 42 4 2 48 751 :: aLD 0 1 :: gR 4 1 12 335 :: aLD 0 1 :: gR 4 0 44 334 :: gR 9 1 54 221 :: aLD 0 1 :: gR 4 0 44 334 :: gR 9 2 58 224 :: gI 3 4 62 177 :: iLD 3 1 :: CALL 135 4 2 67 752 :: iRET :: [] := rfl
theorem ju_152_0 : am_ju 152 0 = iCONST 0 :: iST 1 1 :: am_ju 152 2 := rfl
theorem ju_152_2 : am_ju 152 2 = iLD 1 1 :: iCONST 1 :: aLD 0 1 :: gI 4 5 28 340 :: iSHL :: ICMP 3 56 :: iCONST 0 :: iST 2 1 :: iCONST 0 :: iST 3 1 :: am_ju 152 12 := rfl
theorem ju_152_12 : am_ju 152 12 = iLD 3 1 :: aLD 0 1 :: gI 4 5 28 340 :: ICMP 3 31 :: iLD 1 1 :: iLD 3 1 :: CALL 29 2 1 147 805 :: IFC 0 29 :: iLD 2 1 :: iCONST 1 :: aLD 0 1 :: gR 4 4 25 339 :: iLD 3 1 :: iALD :: iSHL :: iOR :: iST 2 1 :: am_ju 152 29 := rfl
theorem ju_152_29 : am_ju 152 29 = IINC 3 1 :: GOTO 12 :: am_ju 152 31 := rfl
theorem ju_152_31 : am_ju 152 31 = iCONST 0 :: iST 3 1 :: am_ju 152 33 := rfl
theorem ju_152_33 : am_ju 152 33 = iLD 3 1 :: aLD 0 1 :: gR 4 0 44 334 :: gR 9 0 71 218 :: gI 2 6 75 115 :: ICMP 3 54 :: aLD 0 1 :: gR 4 6 32 341 :: iLD 3 1 :: bPUSH 64 :: iMUL :: iLD 1 1 :: iADD :: aLD 0 1 :: iLD 3 1 :: iLD 2 1 :: bPUSH 7 :: CALL 151 4 2 151 810 :: iAST :: IINC 3 1 :: GOTO 33 :: am_ju 152 54 := rfl
theorem ju_152_54 : am_ju 152 54 = IINC 1 1 :: GOTO 2 :: am_ju 152 56 := rfl
theorem ju_152_56 : am_ju 152 56 = vRET :: [] := rfl
theorem ju_153_0 : am_ju 153 0 = bPUSH 99 :: iST 1 1 :: iCONST 0 :: iST 2 1 :: am_ju 153 4 := rfl
theorem ju_153_4 : am_ju 153 4 = iLD 2 1 :: aLD 0 1 :: gR 4 0 44 334 :: gR 9 0 71 218 :: gI 2 6 75 115 :: ICMP 3 45 :: iCONST 0 :: iST 3 1 :: iCONST 0 :: iST 4 0 :: am_ju 153 14 := rfl
theorem ju_153_14 : am_ju 153 14 = iLD 4 0 :: aLD 0 1 :: gI 4 5 28 340 :: ICMP 3 32 :: aLD 0 1 :: gR 4 7 35 342 :: iLD 4 0 :: iALD :: iLD 2 1 :: ICMP 1 30 :: iLD 3 1 :: iCONST 1 :: iLD 4 0 :: iSHL :: iOR :: iST 3 1 :: am_ju 153 30 := rfl
theorem ju_153_30 : am_ju 153 30 = IINC 4 1 :: GOTO 14 :: am_ju 153 32 := rfl
theorem ju_153_32 : am_ju 153 32 = iLD 1 1 :: aLD 0 1 :: gR 4 6 32 341 :: iLD 2 1 :: bPUSH 64 :: iMUL :: iLD 3 1 :: iADD :: iALD :: MMIN 87 758 :: iST 1 1 :: IINC 2 1 :: GOTO 4 :: am_ju 153 45 := rfl
theorem ju_153_45 : am_ju 153 45 = iLD 1 1 :: iRET :: [] := rfl
theorem ju_154_0 : am_ju 154 0 = aLD 0 1 :: gI 4 5 28 340 :: iCONST 1 :: iSUB :: iST 2 1 :: am_ju 154 5 := rfl
theorem ju_154_5 : am_ju 154 5 = iLD 2 1 :: IFC 2 29 :: aLD 0 1 :: gR 4 7 35 342 :: iLD 2 1 :: DUP2 :: iALD :: iCONST 1 :: iADD :: iAST :: aLD 0 1 :: gR 4 7 35 342 :: iLD 2 1 :: iALD :: iLD 1 1 :: ICMP 3 22 :: vRET :: am_ju 154 22 := rfl
theorem ju_154_22 : am_ju 154 22 = aLD 0 1 :: gR 4 7 35 342 :: iLD 2 1 :: iCONST 0 :: iAST :: IINC 2 (-1) :: GOTO 5 :: am_ju 154 29 := rfl
theorem ju_154_29 : am_ju 154 29 = vRET :: [] := rfl
theorem ju_155_0 : am_ju 155 0 = aLD 0 1 :: CALL 150 1 2 122 800 :: aLD 0 1 :: CALL 152 1 2 125 806 :: aLD 0 1 :: gR 4 0 44 334 :: gR 9 0 71 218 :: gI 2 6 75 115 :: iST 1 1 :: iCONST 1 :: iST 2 1 :: iCONST 0 :: iST 3 1 :: am_ju 155 13 := rfl
theorem ju_155_13 : am_ju 155 13 = iLD 3 1 :: aLD 0 1 :: gI 4 5 28 340 :: ICMP 3 23 :: iLD 2 1 :: iLD 1 1 :: iMUL :: iST 2 1 :: IINC 3 1 :: GOTO 13 :: am_ju 155 23 := rfl
theorem ju_155_23 : am_ju 155 23 = aLD 0 1 :: gR 4 7 35 342 :: iCONST 0 :: CALL 79 2 0 128 814 :: aLD 0 1 :: iCONST (-1) :: pI 4 9 41 344 :: iCONST 0 :: iST 3 1 :: am_ju 155 32 := rfl
theorem ju_155_32 : am_ju 155 32 = iLD 3 1 :: iLD 2 1 :: ICMP 3 55 :: aLD 0 1 :: CALL 153 1 2 134 815 :: iST 4 0 :: iLD 4 0 :: aLD 0 1 :: gI 4 9 41 344 :: ICMP 5 50 :: aLD 0 1 :: iLD 4 0 :: pI 4 9 41 344 :: aLD 0 1 :: gR 4 8 38 343 :: aLD 0 1 :: gR 4 7 35 342 :: CALL 71 2 1 137 819 :: am_ju 155 50 := rfl
theorem ju_155_50 : am_ju 155 50 = aLD 0 1 :: iLD 1 1 :: CALL 154 2 2 141 820 :: IINC 3 1 :: GOTO 32 :: am_ju 155 55 := rfl
theorem ju_155_55 : am_ju 155 55 = vRET :: [] := rfl
theorem ju_156_0 : am_ju 156 0 = iCONST 0 :: iST 2 1 :: am_ju 156 2 := rfl
theorem ju_156_2 : am_ju 156 2 = iLD 2 1 :: aLD 0 1 :: gI 4 5 28 340 :: ICMP 3 19 :: aLD 0 1 :: gR 4 4 25 339 :: iLD 2 1 :: iALD :: iLD 1 1 :: ICMP 1 17 :: aLD 0 1 :: gR 4 8 38 343 :: iLD 2 1 :: iALD :: iRET :: am_ju 156 17 := rfl
theorem ju_156_17 : am_ju 156 17 = IINC 2 1 :: GOTO 2 :: am_ju 156 19 := rfl
theorem ju_156_19 : am_ju 156 19 = bPUSH (-4) :: iRET :: [] := rfl
theorem ju_157_0 : am_ju 157 0 = iLD 1 1 :: iCONST (-1) :: ICMP 0 11 :: aLD 0 1 :: gR 10 0 59 390 :: gR 9 0 82 217 :: iLD 1 1 :: CALL 27 2 2 100 464 :: IFC 1 11 :: iCONST (-1) :: iRET :: am_ju 157 11 := rfl
theorem ju_157_11 : am_ju 157 11 = aLD 0 1 :: gR 10 0 59 390 :: gR 9 0 82 217 :: gI 2 6 85 114 :: IFC 0 20 :: aLD 0 1 :: gR 10 0 59 390 :: CALL 148 1 2 251 786 :: IFC 0 22 :: am_ju 157 20 := rfl
theorem ju_157_20 : am_ju 157 20 = iCONST (-1) :: iRET :: am_ju 157 22 := rfl
theorem ju_157_22 : am_ju 157 22 = aLD 0 1 :: gR 10 0 59 390 :: CALL 149 1 2 255 791 :: CALL 55 1 0 211 657 :: bPUSH 6 :: ICMP 5 30 :: bPUSH (-3) :: iRET :: am_ju 157 30 := rfl
theorem ju_157_30 : am_ju 157 30 = aLD 0 1 :: gR 10 3 67 393 :: CALL 155 1 2 258 796 :: iLD 1 1 :: iCONST (-1) :: ICMP 1 41 :: aLD 0 1 :: gR 10 3 67 393 :: gI 4 9 261 345 :: CALL 137 1 0 245 759 :: GOTO 45 :: am_ju 157 41 := rfl
theorem ju_157_41 : am_ju 157 41 = aLD 0 1 :: gR 10 3 67 393 :: iLD 1 1 :: CALL 156 2 2 264 824 :: am_ju 157 45 := rfl
theorem ju_157_45 : am_ju 157 45 = iRET :: [] := rfl
theorem ju_158_0 : am_ju 158 0 = iCONST 0 :: iST 1 1 :: iCONST 0 :: iST 2 1 :: am_ju 158 4 := rfl
theorem ju_158_4 : am_ju 158 4 = iLD 2 1 :: bPUSH 8 :: ICMP 3 17 :: iLD 1 1 :: iLD 0 1 :: iLD 2 1 :: iSHR :: iCONST 1 :: iAND :: iADD :: iST 1 1 :: IINC 2 1 :: GOTO 4 :: am_ju 158 17 := rfl
theorem ju_158_17 : am_ju 158 17 = iLD 1 1 :: iRET :: [] := rfl
theorem ju_159_0 : am_ju 159 0 = iCONST 1 :: iST 3 1 :: iCONST 0 :: iST 4 0 :: am_ju 159 4 := rfl
theorem ju_159_4 : am_ju 159 4 = iLD 4 0 :: iLD 2 1 :: ICMP 3 13 :: iLD 3 1 :: iLD 1 1 :: iMUL :: iST 3 1 :: IINC 4 1 :: GOTO 4 :: am_ju 159 13 := rfl
theorem ju_159_13 : am_ju 159 13 = iLD 3 1 :: iRET :: [] := rfl
theorem ju_160_0 : am_ju 160 0 = aLD 0 1 :: gR 11 0 7 1021 :: aLD 0 1 :: gR 11 1 13 1022 :: CALL 90 2 0 137 1180 :: iLD 1 1 :: iST 3 1 :: aLD 0 1 :: gR 11 0 7 1021 :: iCONST 1 :: iALD :: iCONST 1 :: iSUB :: iST 4 0 :: am_ju 160 14 := rfl
theorem ju_160_14 : am_ju 160 14 = iLD 4 0 :: IFC 2 42 :: iLD 2 1 :: iLD 4 0 :: CALL 34 2 0 62 1115 :: IFC 0 40 :: aLD 0 1 :: gR 11 1 13 1022 :: iLD 4 0 :: CALL 25 1 0 59 1096 :: iCONST 5 :: iADD :: iLD 3 1 :: aLD 0 1 :: gR 11 0 7 1021 :: iCONST 0 :: iALD :: iREM :: iAST :: iLD 3 1 :: aLD 0 1 :: gR 11 0 7 1021 :: iCONST 0 :: iALD :: iDIV :: iST 3 1 :: am_ju 160 40 := rfl
theorem ju_160_40 : am_ju 160 40 = IINC 4 (-1) :: GOTO 14 :: am_ju 160 42 := rfl
theorem ju_160_42 : am_ju 160 42 = vRET :: [] := rfl
set_option maxRecDepth 100000 in
theorem ju_161_0 : am_ju 161 0 = aLD 0 1 :: gR 11 0 7 1021 :: iCONST 0 :: iALD :: IFC 1 7 :: iCONST 1 :: GOTO 8 :: am_ju 161 7 := rfl
set_option maxRecDepth 100000 in
theorem ju_161_7 : am_ju 161 7 = iCONST 0 :: am_ju 161 8 := rfl
set_option maxRecDepth 100000 in
theorem ju_161_8 : am_ju 161 8 = iST 2 1 :: iCONST 0 :: iST 3 1 :: am_ju 161 11 := rfl
set_option maxRecDepth 100000 in
theorem ju_161_11 : am_ju 161 11 = iLD 3 1 :: aLD 0 1 :: gR 11 0 7 1021 :: iCONST 0 :: iALD :: ICMP 3 29 :: iLD 2 1 :: IFC 1 23 :: aLD 0 1 :: iLD 3 1 :: CALL 35 2 2 73 1111 :: IFC 0 25 :: am_ju 161 23 := rfl
set_option maxRecDepth 100000 in
theorem ju_161_23 : am_ju 161 23 = iCONST 1 :: GOTO 26 :: am_ju 161 25 := rfl
set_option maxRecDepth 100000 in
theorem ju_161_25 : am_ju 161 25 = iCONST 0 :: am_ju 161 26 := rfl
set_option maxRecDepth 100000 in
theorem ju_161_26 : am_ju 161 26 = iST 2 1 :: IINC 3 1 :: GOTO 11 :: am_ju 161 29 := rfl
set_option maxRecDepth 100000 in
theorem ju_161_29 : am_ju 161 29 = iLD 2 1 :: IFC 1 38 :: iLD 1 1 :: iCONST (-1) :: ICMP 0 40 :: aLD 0 1 :: iLD 1 1 :: CALL 32 2 2 66 1103 :: IFC 1 40 :: am_ju 161 38 := rfl
set_option maxRecDepth 100000 in
theorem ju_161_38 : am_ju 161 38 = iCONST (-1) :: iRET :: am_ju 161 40 := rfl
set_option maxRecDepth 100000 in
theorem ju_161_40 : am_ju 161 40 = iCONST 0 :: iST 3 1 :: iCONST 0 :: iST 4 0 :: am_ju 161 44 := rfl
set_option maxRecDepth 100000 in
theorem ju_161_44 : am_ju 161 44 = iLD 4 0 :: aLD 0 1 :: gR 11 0 7 1021 :: iCONST 1 :: iALD :: ICMP 3 69 :: iLD 3 1 :: aLD 0 1 :: gR 11 0 7 1021 :: iLD 4 0 :: CALL 25 1 0 59 1096 :: iCONST 5 :: iADD :: iALD :: bPUSH 10 :: ICMP 3 64 :: iCONST 1 :: iLD 4 0 :: iSHL :: GOTO 65 :: am_ju 161 64 := rfl
set_option maxRecDepth 100000 in
theorem ju_161_64 : am_ju 161 64 = iCONST 0 :: am_ju 161 65 := rfl
set_option maxRecDepth 100000 in
theorem ju_161_65 : am_ju 161 65 = iOR :: iST 3 1 :: IINC 4 1 :: GOTO 44 :: am_ju 161 69 := rfl
set_option maxRecDepth 100000 in
theorem ju_161_69 : am_ju 161 69 = iLD 3 1 :: CALL 158 1 0 195 1294 :: bPUSH 6 :: ICMP 5 75 :: bPUSH (-3) :: iRET :: am_ju 161 75 := rfl
set_option maxRecDepth 100000 in
theorem ju_161_75 : am_ju 161 75 = iCONST 0 :: iST 4 0 :: iCONST (-1) :: iST 5 0 :: iCONST 0 :: iST 6 0 :: am_ju 161 81 := rfl
set_option maxRecDepth 100000 in
theorem ju_161_81 : am_ju 161 81 = iLD 6 0 :: aLD 0 1 :: aLD 0 1 :: gR 11 0 7 1021 :: iCONST 0 :: iALD :: iLD 3 1 :: CALL 158 1 0 195 1294 :: CALL 159 3 2 198 1297 :: ICMP 3 115 :: aLD 0 1 :: iLD 6 0 :: iLD 3 1 :: CALL 160 3 2 201 1301 :: aLD 0 1 :: bPUSH 7 :: CALL 139 2 2 186 1274 :: iST 7 0 :: iLD 7 0 :: iLD 5 0 :: ICMP 5 104 :: iLD 6 0 :: GOTO 105 :: am_ju 161 104 := rfl
set_option maxRecDepth 100000 in
theorem ju_161_104 : am_ju 161 104 = iLD 4 0 :: am_ju 161 105 := rfl
set_option maxRecDepth 100000 in
theorem ju_161_105 : am_ju 161 105 = iST 4 0 :: iLD 7 0 :: iLD 5 0 :: ICMP 5 111 :: iLD 7 0 :: GOTO 112 :: am_ju 161 111 := rfl
set_option maxRecDepth 100000 in
theorem ju_161_111 : am_ju 161 111 = iLD 5 0 :: am_ju 161 112 := rfl
set_option maxRecDepth 100000 in
theorem ju_161_112 : am_ju 161 112 = iST 5 0 :: IINC 6 1 :: GOTO 81 :: am_ju 161 115 := rfl
set_option maxRecDepth 100000 in
theorem ju_161_115 : am_ju 161 115 = iLD 1 1 :: iCONST (-1) :: ICMP 1 122 :: aLD 0 1 :: iLD 5 0 :: CALL 140 2 2 189 1278 :: iRET :: am_ju 161 122 := rfl
set_option maxRecDepth 100000 in
theorem ju_161_122 : am_ju 161 122 = aLD 0 1 :: iLD 4 0 :: iLD 3 1 :: CALL 160 3 2 201 1301 :: iLD 3 1 :: iLD 1 1 :: CALL 34 2 0 62 1115 :: IFC 0 138 :: aLD 0 1 :: gR 11 1 13 1022 :: iLD 1 1 :: CALL 25 1 0 59 1096 :: iCONST 5 :: iADD :: iALD :: GOTO 139 :: am_ju 161 138 := rfl
set_option maxRecDepth 100000 in
theorem ju_161_138 : am_ju 161 138 = bPUSH (-4) :: am_ju 161 139 := rfl
set_option maxRecDepth 100000 in
theorem ju_161_139 : am_ju 161 139 = iRET :: [] := rfl
theorem ju_162_0 : am_ju 162 0 = bPUSH (-4) :: iST 1 1 :: aLD 0 1 :: bPUSH 7 :: bPUSH (-4) :: CALL 136 3 2 93 836 :: iST 2 1 :: iCONST 0 :: iST 3 1 :: am_ju 162 9 := rfl
theorem ju_162_9 : am_ju 162 9 = iLD 3 1 :: aLD 0 1 :: gR 4 0 44 334 :: gR 9 0 71 218 :: gI 2 6 75 115 :: ICMP 3 37 :: aLD 0 1 :: gR 4 0 44 334 :: gR 9 0 71 218 :: gR 2 0 95 94 :: iLD 3 1 :: iALD :: IFC 0 23 :: GOTO 35 :: am_ju 162 23 := rfl
theorem ju_162_23 : am_ju 162 23 = aLD 0 1 :: bPUSH 7 :: iLD 3 1 :: CALL 136 3 2 93 836 :: iST 4 0 :: iLD 4 0 :: iLD 2 1 :: ICMP 5 35 :: iLD 4 0 :: iST 2 1 :: iLD 3 1 :: iST 1 1 :: am_ju 162 35 := rfl
theorem ju_162_35 : am_ju 162 35 = IINC 3 1 :: GOTO 9 :: am_ju 162 37 := rfl
theorem ju_162_37 : am_ju 162 37 = iLD 1 1 :: iRET :: [] := rfl
theorem ju_163_0 : am_ju 163 0 = aLD 0 1 :: gR 10 3 67 393 :: CALL 162 1 2 267 832 :: iRET :: [] := rfl
theorem ju_164_0 : am_ju 164 0 = aLD 0 1 :: gR 11 0 7 1021 :: aLD 0 1 :: gR 11 1 13 1022 :: CALL 90 2 0 137 1180 :: aLD 0 1 :: bPUSH 7 :: CALL 139 2 2 186 1274 :: iST 1 1 :: bPUSH (-4) :: iST 2 1 :: iCONST 0 :: iST 3 1 :: am_ju 164 13 := rfl
theorem ju_164_13 : am_ju 164 13 = iLD 3 1 :: aLD 0 1 :: gR 11 0 7 1021 :: iCONST 0 :: iALD :: ICMP 3 60 :: aLD 0 1 :: gR 11 0 7 1021 :: iLD 3 1 :: CALL 18 1 0 51 1089 :: iCONST 0 :: iADD :: iALD :: IFC 1 58 :: aLD 0 1 :: gR 11 0 7 1021 :: aLD 0 1 :: gR 11 1 13 1022 :: CALL 90 2 0 137 1180 :: aLD 0 1 :: gR 11 1 13 1022 :: iLD 3 1 :: CALL 18 1 0 51 1089 :: iCONST 0 :: iADD :: iCONST 1 :: iAST :: aLD 0 1 :: bPUSH 7 :: CALL 139 2 2 186 1274 :: iST 4 0 :: iLD 4 0 :: iLD 1 1 :: ICMP 5 49 :: iLD 3 1 :: GOTO 50 :: am_ju 164 49 := rfl
theorem ju_164_49 : am_ju 164 49 = iLD 2 1 :: am_ju 164 50 := rfl
theorem ju_164_50 : am_ju 164 50 = iST 2 1 :: iLD 4 0 :: iLD 1 1 :: ICMP 5 56 :: iLD 4 0 :: GOTO 57 :: am_ju 164 56 := rfl
theorem ju_164_56 : am_ju 164 56 = iLD 1 1 :: am_ju 164 57 := rfl
theorem ju_164_57 : am_ju 164 57 = iST 1 1 :: am_ju 164 58 := rfl
theorem ju_164_58 : am_ju 164 58 = IINC 3 1 :: GOTO 13 :: am_ju 164 60 := rfl
theorem ju_164_60 : am_ju 164 60 = iLD 2 1 :: iRET :: [] := rfl
theorem ju_165_0 : am_ju 165 0 = aLD 0 1 :: gR 4 0 44 334 :: gR 9 0 71 218 :: gR 2 4 161 108 :: iLD 1 1 :: CALL 40 2 1 164 853 :: aLD 0 1 :: gR 4 0 44 334 :: gR 9 0 71 218 :: gR 2 4 161 108 :: iLD 2 1 :: CALL 40 2 1 164 853 :: iSUB :: iST 3 1 :: iLD 3 1 :: IFC 0 22 :: iLD 3 1 :: IFC 3 20 :: iCONST 1 :: GOTO 21 :: am_ju 165 20 := rfl
theorem ju_165_20 : am_ju 165 20 = iCONST 0 :: am_ju 165 21 := rfl
theorem ju_165_21 : am_ju 165 21 = zRET :: am_ju 165 22 := rfl
theorem ju_165_22 : am_ju 165 22 = iLD 1 1 :: CALL 55 1 0 168 854 :: iLD 2 1 :: CALL 55 1 0 168 854 :: iSUB :: iST 4 0 :: iLD 4 0 :: IFC 0 36 :: iLD 4 0 :: IFC 3 34 :: iCONST 1 :: GOTO 42 :: am_ju 165 34 := rfl
theorem ju_165_34 : am_ju 165 34 = iCONST 0 :: GOTO 42 :: am_ju 165 36 := rfl
theorem ju_165_36 : am_ju 165 36 = iLD 1 1 :: iLD 2 1 :: ICMP 3 41 :: iCONST 1 :: GOTO 42 :: am_ju 165 41 := rfl
theorem ju_165_41 : am_ju 165 41 = iCONST 0 :: am_ju 165 42 := rfl
theorem ju_165_42 : am_ju 165 42 = zRET :: [] := rfl
theorem ju_166_0 : am_ju 166 0 = aLD 0 1 :: gR 4 0 44 334 :: iLD 1 1 :: CALL 39 2 2 80 750 :: iST 2 1 :: iLD 2 1 :: iST 3 1 :: iCONST 0 :: iST 4 0 :: am_ju 166 9 := rfl
theorem ju_166_9 : am_ju 166 9 = iLD 4 0 :: sPUSH 256 :: ICMP 3 39 :: iLD 4 0 :: iLD 2 1 :: iCONST (-1) :: iXOR :: iAND :: IFC 1 37 :: aLD 0 1 :: iLD 4 0 :: iLD 3 1 :: CALL 165 3 2 158 849 :: IFC 1 24 :: GOTO 37 :: am_ju 166 24 := rfl
theorem ju_166_24 : am_ju 166 24 = aLD 0 1 :: iLD 1 1 :: iLD 2 1 :: iLD 4 0 :: iCONST (-1) :: iXOR :: iAND :: bPUSH 7 :: CALL 151 4 2 151 810 :: bPUSH 99 :: ICMP 1 37 :: iLD 4 0 :: iST 3 1 :: am_ju 166 37 := rfl
theorem ju_166_37 : am_ju 166 37 = IINC 4 1 :: GOTO 9 :: am_ju 166 39 := rfl
theorem ju_166_39 : am_ju 166 39 = iLD 3 1 :: iRET :: [] := rfl
theorem ju_167_0 : am_ju 167 0 = iCONST 0 :: iST 1 1 :: iCONST 0 :: iST 2 1 :: am_ju 167 4 := rfl
theorem ju_167_4 : am_ju 167 4 = iLD 2 1 :: aLD 0 1 :: gR 4 0 44 334 :: gR 9 0 71 218 :: gI 2 6 75 115 :: ICMP 3 18 :: iLD 1 1 :: aLD 0 1 :: iLD 2 1 :: CALL 166 2 2 155 845 :: iOR :: iST 1 1 :: IINC 2 1 :: GOTO 4 :: am_ju 167 18 := rfl
theorem ju_167_18 : am_ju 167 18 = iLD 1 1 :: iRET :: [] := rfl
theorem ju_168_0 : am_ju 168 0 = iLD 1 1 :: iCONST 2 :: CALL 12 2 0 78 428 :: IFC 1 6 :: iCONST (-1) :: iRET :: am_ju 168 6 := rfl
theorem ju_168_6 : am_ju 168 6 = aLD 0 1 :: gR 10 3 67 393 :: CALL 167 1 2 270 841 :: iST 2 1 :: iLD 1 1 :: IFC 1 14 :: iLD 2 1 :: GOTO 20 :: am_ju 168 14 := rfl
theorem ju_168_14 : am_ju 168 14 = aLD 0 1 :: gR 10 0 59 390 :: gR 9 0 82 217 :: gR 2 4 164 107 :: iLD 2 1 :: CALL 40 2 0 273 855 :: am_ju 168 20 := rfl
theorem ju_168_20 : am_ju 168 20 = iRET :: [] := rfl
theorem ju_169_0 : am_ju 169 0 = iCONST 0 :: iST 2 1 :: iCONST 0 :: iST 3 1 :: am_ju 169 4 := rfl
theorem ju_169_4 : am_ju 169 4 = iLD 3 1 :: aLD 0 1 :: gR 11 0 7 1021 :: iCONST 1 :: iALD :: ICMP 3 28 :: iLD 2 1 :: iLD 1 1 :: iLD 3 1 :: CALL 34 2 0 62 1115 :: IFC 0 23 :: aLD 0 1 :: gR 11 0 7 1021 :: iLD 3 1 :: CALL 25 1 0 59 1096 :: iCONST 3 :: iADD :: iALD :: GOTO 24 :: am_ju 169 23 := rfl
theorem ju_169_23 : am_ju 169 23 = iCONST 0 :: am_ju 169 24 := rfl
theorem ju_169_24 : am_ju 169 24 = iADD :: iST 2 1 :: IINC 3 1 :: GOTO 4 :: am_ju 169 28 := rfl
theorem ju_169_28 : am_ju 169 28 = iLD 2 1 :: iRET :: [] := rfl
theorem ju_170_0 : am_ju 170 0 = aLD 0 1 :: gR 11 0 7 1021 :: aLD 0 1 :: gR 11 1 13 1022 :: CALL 90 2 0 137 1180 :: iCONST 0 :: iST 2 1 :: am_ju 170 7 := rfl
theorem ju_170_7 : am_ju 170 7 = iLD 2 1 :: aLD 0 1 :: gR 11 0 7 1021 :: iCONST 1 :: iALD :: ICMP 3 35 :: aLD 0 1 :: gR 11 1 13 1022 :: iLD 2 1 :: CALL 25 1 0 59 1096 :: iCONST 5 :: iADD :: iLD 1 1 :: iLD 2 1 :: CALL 34 2 0 62 1115 :: IFC 0 25 :: iCONST 3 :: GOTO 32 :: am_ju 170 25 := rfl
theorem ju_170_25 : am_ju 170 25 = aLD 0 1 :: gR 11 1 13 1022 :: iLD 2 1 :: CALL 25 1 0 59 1096 :: iCONST 5 :: iADD :: iALD :: am_ju 170 32 := rfl
theorem ju_170_32 : am_ju 170 32 = iAST :: IINC 2 1 :: GOTO 7 :: am_ju 170 35 := rfl
theorem ju_170_35 : am_ju 170 35 = aLD 0 1 :: bPUSH 7 :: CALL 139 2 2 186 1274 :: aLD 0 1 :: gR 11 0 7 1021 :: iCONST 2 :: iALD :: ICMP 1 45 :: iCONST 1 :: GOTO 46 :: am_ju 170 45 := rfl
theorem ju_170_45 : am_ju 170 45 = iCONST 0 :: am_ju 170 46 := rfl
theorem ju_170_46 : am_ju 170 46 = zRET :: [] := rfl
theorem ju_171_0 : am_ju 171 0 = iLD 1 1 :: iCONST 0 :: iCONST 1 :: CALL 17 3 0 47 1083 :: IFC 1 7 :: iCONST (-1) :: iRET :: am_ju 171 7 := rfl
theorem ju_171_7 : am_ju 171 7 = iCONST 0 :: iST 2 1 :: iCONST 0 :: iST 3 1 :: am_ju 171 11 := rfl
theorem ju_171_11 : am_ju 171 11 = iLD 3 1 :: aLD 0 1 :: gR 11 0 7 1021 :: iCONST 0 :: iALD :: ICMP 3 26 :: iLD 2 1 :: aLD 0 1 :: gR 11 0 7 1021 :: iLD 3 1 :: CALL 45 2 0 76 1126 :: iOR :: iST 2 1 :: IINC 3 1 :: GOTO 11 :: am_ju 171 26 := rfl
theorem ju_171_26 : am_ju 171 26 = iLD 2 1 :: iST 3 1 :: iCONST 0 :: iST 4 0 :: am_ju 171 30 := rfl
theorem ju_171_30 : am_ju 171 30 = iLD 4 0 :: iLD 2 1 :: ICMP 4 82 :: aLD 0 1 :: iLD 3 1 :: CALL 169 2 2 205 1313 :: aLD 0 1 :: iLD 4 0 :: CALL 169 2 2 205 1313 :: iSUB :: iST 5 0 :: iLD 5 0 :: IFC 4 60 :: iLD 5 0 :: IFC 1 50 :: iLD 4 0 :: CALL 158 1 0 195 1294 :: iLD 3 1 :: CALL 158 1 0 195 1294 :: ICMP 2 60 :: am_ju 171 50 := rfl
theorem ju_171_50 : am_ju 171 50 = iLD 5 0 :: IFC 1 62 :: iLD 4 0 :: CALL 158 1 0 195 1294 :: iLD 3 1 :: CALL 158 1 0 195 1294 :: ICMP 1 62 :: iLD 4 0 :: iLD 3 1 :: ICMP 3 62 :: am_ju 171 60 := rfl
theorem ju_171_60 : am_ju 171 60 = iCONST 1 :: GOTO 63 :: am_ju 171 62 := rfl
theorem ju_171_62 : am_ju 171 62 = iCONST 0 :: am_ju 171 63 := rfl
theorem ju_171_63 : am_ju 171 63 = iST 6 0 :: iLD 4 0 :: iLD 2 1 :: iCONST (-1) :: iXOR :: iAND :: IFC 1 78 :: iLD 6 0 :: IFC 0 78 :: aLD 0 1 :: iLD 4 0 :: CALL 170 2 2 208 1317 :: IFC 0 78 :: iLD 4 0 :: GOTO 79 :: am_ju 171 78 := rfl
theorem ju_171_78 : am_ju 171 78 = iLD 3 1 :: am_ju 171 79 := rfl
theorem ju_171_79 : am_ju 171 79 = iST 3 1 :: IINC 4 1 :: GOTO 30 :: am_ju 171 82 := rfl
theorem ju_171_82 : am_ju 171 82 = iLD 1 1 :: IFC 1 86 :: iLD 3 1 :: GOTO 89 :: am_ju 171 86 := rfl
theorem ju_171_86 : am_ju 171 86 = aLD 0 1 :: iLD 3 1 :: CALL 169 2 2 205 1313 :: am_ju 171 89 := rfl
theorem ju_171_89 : am_ju 171 89 = iRET :: [] := rfl
theorem ju_172_0 : am_ju 172 0 = aLD 0 1 :: gR 9 0 12 216 :: iLD 1 1 :: CALL 27 2 2 100 864 :: IFC 0 21 :: aLD 0 1 :: gR 9 0 12 216 :: gR 2 5 104 111 :: iLD 1 1 :: iALD :: iCONST 1 :: ICMP 1 21 :: aLD 0 1 :: gR 9 2 28 223 :: gR 3 3 74 174 :: iLD 1 1 :: iALD :: bPUSH 10 :: ICMP 2 21 :: iCONST 1 :: GOTO 22 :: am_ju 172 21 := rfl
theorem ju_172_21 : am_ju 172 21 = iCONST 0 :: am_ju 172 22 := rfl
theorem ju_172_22 : am_ju 172 22 = zRET :: [] := rfl
theorem ju_173_0 : am_ju 173 0 = aLD 0 1 :: iLD 1 1 :: CALL 100 2 2 19 662 :: iST 2 1 :: iLD 2 1 :: iCONST 1 :: ICMP 0 12 :: iLD 2 1 :: iCONST 2 :: ICMP 0 12 :: iCONST 0 :: iRET :: am_ju 173 12 := rfl
theorem ju_173_12 : am_ju 173 12 = iLD 2 1 :: iCONST 1 :: ICMP 1 17 :: iCONST (-1) :: GOTO 18 :: am_ju 173 17 := rfl
theorem ju_173_17 : am_ju 173 17 = iCONST 1 :: am_ju 173 18 := rfl
theorem ju_173_18 : am_ju 173 18 = iST 3 1 :: iCONST 0 :: iST 4 0 :: am_ju 173 21 := rfl
theorem ju_173_21 : am_ju 173 21 = iLD 4 0 :: bPUSH 20 :: ICMP 3 37 :: aLD 0 1 :: iLD 1 1 :: iLD 3 1 :: iLD 4 0 :: iCONST 1 :: iADD :: iMUL :: iADD :: CALL 100 2 2 19 662 :: iLD 2 1 :: ICMP 1 37 :: IINC 4 1 :: GOTO 21 :: am_ju 173 37 := rfl
theorem ju_173_37 : am_ju 173 37 = iLD 4 0 :: iRET :: [] := rfl
theorem ju_174_0 : am_ju 174 0 = aLD 0 1 :: iLD 1 1 :: CALL 172 2 2 107 869 :: IFC 0 15 :: aLD 0 1 :: gR 9 1 21 220 :: aLD 0 1 :: gR 9 2 28 223 :: gR 3 3 74 174 :: iLD 1 1 :: iALD :: bPUSH 10 :: iSUB :: CALL 173 2 2 110 870 :: GOTO 16 :: am_ju 174 15 := rfl
theorem ju_174_15 : am_ju 174 15 = iCONST 0 :: am_ju 174 16 := rfl
theorem ju_174_16 : am_ju 174 16 = iRET :: [] := rfl
theorem ju_175_0 : am_ju 175 0 = aLD 0 1 :: gR 10 0 59 390 :: gR 9 0 82 217 :: iLD 1 1 :: CALL 27 2 2 100 464 :: IFC 1 8 :: iCONST (-1) :: iRET :: am_ju 175 8 := rfl
theorem ju_175_8 : am_ju 175 8 = aLD 0 1 :: gR 10 0 59 390 :: iLD 1 1 :: CALL 172 2 2 277 860 :: IFC 1 15 :: bPUSH (-2) :: iRET :: am_ju 175 15 := rfl
theorem ju_175_15 : am_ju 175 15 = aLD 0 1 :: gR 10 0 59 390 :: iLD 1 1 :: CALL 174 2 2 280 865 :: iRET :: [] := rfl
theorem ju_176_0 : am_ju 176 0 = aLD 0 1 :: gR 11 0 7 1021 :: iLD 1 1 :: CALL 25 1 0 59 1096 :: iCONST 4 :: iADD :: iALD :: iCONST 1 :: ICMP 1 20 :: aLD 0 1 :: gR 11 0 7 1021 :: iLD 1 1 :: CALL 25 1 0 59 1096 :: iCONST 5 :: iADD :: iALD :: bPUSH 10 :: ICMP 2 20 :: iCONST 1 :: GOTO 21 :: am_ju 176 20 := rfl
theorem ju_176_20 : am_ju 176 20 = iCONST 0 :: am_ju 176 21 := rfl
theorem ju_176_21 : am_ju 176 21 = zRET :: [] := rfl
theorem ju_177_0 : am_ju 177 0 = aLD 0 1 :: gR 11 0 7 1021 :: iLD 1 1 :: CALL 25 1 0 59 1096 :: iCONST 5 :: iADD :: iALD :: bPUSH 10 :: iSUB :: iST 2 1 :: iLD 2 1 :: iCONST 0 :: aLD 0 1 :: gR 11 0 7 1021 :: iCONST 2 :: iALD :: iCONST 1 :: iSUB :: CALL 17 3 0 47 1083 :: IFC 0 27 :: aLD 0 1 :: gR 11 0 7 1021 :: bPUSH 66 :: iLD 2 1 :: iADD :: iALD :: GOTO 28 :: am_ju 177 27 := rfl
theorem ju_177_27 : am_ju 177 27 = iCONST 0 :: am_ju 177 28 := rfl
theorem ju_177_28 : am_ju 177 28 = iST 3 1 :: iLD 3 1 :: iCONST 1 :: ICMP 1 34 :: iCONST (-1) :: GOTO 40 :: am_ju 177 34 := rfl
theorem ju_177_34 : am_ju 177 34 = iLD 3 1 :: iCONST 2 :: ICMP 1 39 :: iCONST 1 :: GOTO 40 :: am_ju 177 39 := rfl
theorem ju_177_39 : am_ju 177 39 = iCONST 0 :: am_ju 177 40 := rfl
theorem ju_177_40 : am_ju 177 40 = iST 4 0 :: iCONST 0 :: iST 5 0 :: am_ju 177 43 := rfl
theorem ju_177_43 : am_ju 177 43 = iLD 4 0 :: IFC 0 73 :: iLD 2 1 :: iLD 4 0 :: iADD :: iCONST 0 :: aLD 0 1 :: gR 11 0 7 1021 :: iCONST 2 :: iALD :: iCONST 1 :: iSUB :: CALL 17 3 0 47 1083 :: IFC 0 73 :: aLD 0 1 :: gR 11 0 7 1021 :: bPUSH 66 :: iLD 2 1 :: iADD :: iLD 4 0 :: iADD :: iALD :: iLD 3 1 :: ICMP 1 73 :: iLD 2 1 :: iLD 4 0 :: iADD :: iST 2 1 :: IINC 5 1 :: GOTO 43 :: am_ju 177 73 := rfl
theorem ju_177_73 : am_ju 177 73 = iLD 5 0 :: iRET :: [] := rfl
theorem ju_178_0 : am_ju 178 0 = aLD 0 1 :: iLD 1 1 :: CALL 32 2 2 66 1103 :: IFC 1 6 :: iCONST (-1) :: iRET :: am_ju 178 6 := rfl
theorem ju_178_6 : am_ju 178 6 = aLD 0 1 :: iLD 1 1 :: CALL 176 2 2 211 1325 :: IFC 0 14 :: aLD 0 1 :: iLD 1 1 :: CALL 177 2 2 214 1329 :: GOTO 15 :: am_ju 178 14 := rfl
theorem ju_178_14 : am_ju 178 14 = bPUSH (-2) :: am_ju 178 15 := rfl
theorem ju_178_15 : am_ju 178 15 = iRET :: [] := rfl
theorem ju_179_0 : am_ju 179 0 = iCONST 0 :: iST 1 1 :: iCONST 0 :: iST 2 1 :: am_ju 179 4 := rfl
theorem ju_179_4 : am_ju 179 4 = iLD 2 1 :: aLD 0 1 :: gR 9 0 12 216 :: gI 2 7 53 118 :: ICMP 3 21 :: aLD 0 1 :: iLD 2 1 :: CALL 172 2 2 107 869 :: IFC 0 19 :: iLD 1 1 :: iCONST 1 :: iLD 2 1 :: iSHL :: iOR :: iST 1 1 :: am_ju 179 19 := rfl
theorem ju_179_19 : am_ju 179 19 = IINC 2 1 :: GOTO 4 :: am_ju 179 21 := rfl
theorem ju_179_21 : am_ju 179 21 = iLD 1 1 :: iRET :: [] := rfl
theorem ju_180_0 : am_ju 180 0 = aLD 0 1 :: gR 1 0 25 373 :: CALL 179 1 2 45 890 :: iST 1 1 :: aLD 0 1 :: iCONST 0 :: pI 1 3 18 376 :: iCONST 0 :: iST 2 1 :: am_ju 180 9 := rfl
theorem ju_180_9 : am_ju 180 9 = iLD 2 1 :: bPUSH 8 :: ICMP 3 43 :: aLD 0 1 :: gI 1 3 18 376 :: bPUSH 6 :: ICMP 3 43 :: iLD 1 1 :: iLD 2 1 :: CALL 29 2 1 32 891 :: IFC 0 41 :: aLD 0 1 :: gR 1 1 9 374 :: aLD 0 1 :: gI 1 3 18 376 :: iLD 2 1 :: iAST :: aLD 0 1 :: gR 1 2 15 375 :: aLD 0 1 :: gI 1 3 18 376 :: aLD 0 1 :: gR 1 0 25 373 :: iLD 2 1 :: CALL 174 2 2 51 892 :: iAST :: aLD 0 1 :: DUP :: gI 1 3 18 376 :: iCONST 1 :: iADD :: pI 1 3 18 376 :: am_ju 180 41 := rfl
theorem ju_180_41 : am_ju 180 41 = IINC 2 1 :: GOTO 9 :: am_ju 180 43 := rfl
theorem ju_180_43 : am_ju 180 43 = vRET :: [] := rfl
theorem ju_181_0 : am_ju 181 0 = aLD 0 1 :: gR 1 2 15 375 :: iLD 2 1 :: iALD :: IFC 1 7 :: iCONST 1 :: zRET :: am_ju 181 7 := rfl
theorem ju_181_7 : am_ju 181 7 = iCONST 0 :: iST 3 1 :: iCONST 0 :: iST 4 0 :: am_ju 181 11 := rfl
theorem ju_181_11 : am_ju 181 11 = iLD 4 0 :: aLD 0 1 :: gI 1 3 18 376 :: ICMP 3 35 :: iLD 4 0 :: iLD 2 1 :: ICMP 0 22 :: iLD 1 1 :: iLD 4 0 :: CALL 29 2 1 32 891 :: IFC 0 33 :: am_ju 181 22 := rfl
theorem ju_181_22 : am_ju 181 22 = iLD 3 1 :: iCONST 2 :: aLD 0 1 :: gR 1 2 15 375 :: iLD 4 0 :: iALD :: iMUL :: iCONST 1 :: iADD :: iADD :: iST 3 1 :: am_ju 181 33 := rfl
theorem ju_181_33 : am_ju 181 33 = IINC 4 1 :: GOTO 11 :: am_ju 181 35 := rfl
theorem ju_181_35 : am_ju 181 35 = iLD 3 1 :: iCONST 3 :: aLD 0 1 :: gR 1 2 15 375 :: iLD 2 1 :: iALD :: iMUL :: iCONST 2 :: iADD :: ICMP 4 47 :: iCONST 1 :: GOTO 48 :: am_ju 181 47 := rfl
theorem ju_181_47 : am_ju 181 47 = iCONST 0 :: am_ju 181 48 := rfl
theorem ju_181_48 : am_ju 181 48 = zRET :: [] := rfl
theorem ju_182_0 : am_ju 182 0 = aLD 0 1 :: gR 1 4 22 377 :: iLD 1 1 :: iCONST 1 :: iLD 2 1 :: iSHL :: iOR :: iALD :: iST 3 1 :: aLD 0 1 :: iLD 1 1 :: iLD 2 1 :: CALL 181 3 2 55 897 :: IFC 0 26 :: iLD 3 1 :: aLD 0 1 :: gR 1 0 25 373 :: gR 9 0 58 219 :: gR 2 4 62 106 :: aLD 0 1 :: gR 1 1 9 374 :: iLD 2 1 :: iALD :: iALD :: iADD :: GOTO 27 :: am_ju 182 26 := rfl
theorem ju_182_26 : am_ju 182 26 = iLD 3 1 :: am_ju 182 27 := rfl
theorem ju_182_27 : am_ju 182 27 = iRET :: [] := rfl
theorem ju_183_0 : am_ju 183 0 = aLD 0 1 :: CALL 180 1 2 29 886 :: iCONST 1 :: aLD 0 1 :: gI 1 3 18 376 :: iSHL :: iCONST 1 :: iSUB :: iST 1 1 :: aLD 0 1 :: gR 1 4 22 377 :: iLD 1 1 :: iCONST 0 :: iAST :: iLD 1 1 :: iCONST 1 :: iSUB :: iST 2 1 :: am_ju 183 18 := rfl
theorem ju_183_18 : am_ju 183 18 = iLD 2 1 :: IFC 2 48 :: iCONST 0 :: iST 3 1 :: iCONST 0 :: iST 4 0 :: am_ju 183 24 := rfl
theorem ju_183_24 : am_ju 183 24 = iLD 4 0 :: aLD 0 1 :: gI 1 3 18 376 :: ICMP 3 41 :: iLD 2 1 :: iLD 4 0 :: CALL 29 2 1 32 891 :: IFC 1 39 :: iLD 3 1 :: aLD 0 1 :: iLD 2 1 :: iLD 4 0 :: CALL 182 3 2 36 893 :: MMAX 40 901 :: iST 3 1 :: am_ju 183 39 := rfl
theorem ju_183_39 : am_ju 183 39 = IINC 4 1 :: GOTO 24 :: am_ju 183 41 := rfl
theorem ju_183_41 : am_ju 183 41 = aLD 0 1 :: gR 1 4 22 377 :: iLD 2 1 :: iLD 3 1 :: iAST :: IINC 2 (-1) :: GOTO 18 :: am_ju 183 48 := rfl
theorem ju_183_48 : am_ju 183 48 = vRET :: [] := rfl
theorem ju_184_0 : am_ju 184 0 = iCONST 0 :: iST 2 1 :: am_ju 184 2 := rfl
theorem ju_184_2 : am_ju 184 2 = iLD 2 1 :: aLD 0 1 :: gI 1 3 18 376 :: ICMP 3 23 :: iLD 1 1 :: iLD 2 1 :: CALL 29 2 1 32 891 :: IFC 1 21 :: aLD 0 1 :: iLD 1 1 :: iLD 2 1 :: CALL 182 3 2 36 893 :: aLD 0 1 :: gR 1 4 22 377 :: iLD 1 1 :: iALD :: ICMP 1 21 :: iLD 2 1 :: iRET :: am_ju 184 21 := rfl
theorem ju_184_21 : am_ju 184 21 = IINC 2 1 :: GOTO 2 :: am_ju 184 23 := rfl
theorem ju_184_23 : am_ju 184 23 = iCONST 0 :: iRET :: [] := rfl
theorem ju_185_0 : am_ju 185 0 = iLD 1 1 :: IFC 2 6 :: iLD 1 1 :: aLD 0 1 :: gI 1 3 18 376 :: ICMP 2 8 :: am_ju 185 6 := rfl
theorem ju_185_6 : am_ju 185 6 = bPUSH (-4) :: iRET :: am_ju 185 8 := rfl
theorem ju_185_8 : am_ju 185 8 = iCONST 0 :: iST 2 1 :: iCONST 0 :: iST 3 1 :: am_ju 185 12 := rfl
theorem ju_185_12 : am_ju 185 12 = iLD 3 1 :: iLD 1 1 :: ICMP 3 25 :: iLD 2 1 :: iCONST 1 :: aLD 0 1 :: iLD 2 1 :: CALL 184 2 2 67 906 :: iSHL :: iOR :: iST 2 1 :: IINC 3 1 :: GOTO 12 :: am_ju 185 25 := rfl
theorem ju_185_25 : am_ju 185 25 = aLD 0 1 :: gR 1 1 9 374 :: aLD 0 1 :: iLD 2 1 :: CALL 184 2 2 67 906 :: iALD :: iRET :: [] := rfl
theorem ju_186_0 : am_ju 186 0 = iLD 1 1 :: iCONST (-1) :: ICMP 2 6 :: iLD 1 1 :: bPUSH 8 :: ICMP 2 8 :: am_ju 186 6 := rfl
theorem ju_186_6 : am_ju 186 6 = iCONST (-1) :: iRET :: am_ju 186 8 := rfl
theorem ju_186_8 : am_ju 186 8 = aLD 0 1 :: gR 10 0 59 390 :: CALL 179 1 2 283 878 :: CALL 55 1 0 211 657 :: bPUSH 6 :: ICMP 5 16 :: bPUSH (-3) :: iRET :: am_ju 186 16 := rfl
theorem ju_186_16 : am_ju 186 16 = aLD 0 1 :: gR 10 4 74 394 :: CALL 183 1 2 286 882 :: iLD 1 1 :: iCONST (-1) :: ICMP 1 28 :: aLD 0 1 :: gR 10 4 74 394 :: gR 1 4 289 378 :: iCONST 0 :: iALD :: GOTO 32 :: am_ju 186 28 := rfl
theorem ju_186_28 : am_ju 186 28 = aLD 0 1 :: gR 10 4 74 394 :: iLD 1 1 :: CALL 185 2 2 292 902 :: am_ju 186 32 := rfl
theorem ju_186_32 : am_ju 186 32 = iRET :: [] := rfl
theorem ju_187_0 : am_ju 187 0 = iLD 1 1 :: iST 3 1 :: iCONST 0 :: iST 4 0 :: iLD 2 1 :: iCONST 1 :: iSUB :: iST 5 0 :: am_ju 187 8 := rfl
theorem ju_187_8 : am_ju 187 8 = iLD 5 0 :: IFC 2 32 :: aLD 0 1 :: gR 11 17 41 1038 :: iLD 5 0 :: iLD 3 1 :: iLD 2 1 :: iREM :: iAST :: iLD 4 0 :: iCONST 1 :: aLD 0 1 :: gR 11 17 41 1038 :: iLD 5 0 :: iALD :: iSHL :: iOR :: iST 4 0 :: iLD 3 1 :: iLD 2 1 :: iDIV :: iST 3 1 :: IINC 5 (-1) :: GOTO 8 :: am_ju 187 32 := rfl
theorem ju_187_32 : am_ju 187 32 = iLD 4 0 :: CALL 158 1 0 195 1294 :: iLD 2 1 :: ICMP 1 38 :: iCONST 1 :: GOTO 39 :: am_ju 187 38 := rfl
theorem ju_187_38 : am_ju 187 38 = iCONST 0 :: am_ju 187 39 := rfl
theorem ju_187_39 : am_ju 187 39 = zRET :: [] := rfl
theorem ju_188_0 : am_ju 188 0 = iCONST 0 :: iST 2 1 :: iCONST 0 :: iST 3 1 :: iCONST 0 :: iST 4 0 :: am_ju 188 6 := rfl
theorem ju_188_6 : am_ju 188 6 = iLD 4 0 :: iLD 1 1 :: ICMP 3 52 :: aLD 0 1 :: gR 11 16 38 1037 :: aLD 0 1 :: gR 11 17 41 1038 :: iLD 4 0 :: iALD :: iALD :: iST 5 0 :: aLD 0 1 :: iLD 5 0 :: CALL 177 2 2 214 1329 :: iST 6 0 :: iLD 2 1 :: iCONST 2 :: iLD 6 0 :: iMUL :: iCONST 1 :: iADD :: iADD :: iST 2 1 :: iLD 3 1 :: iLD 6 0 :: IFC 0 39 :: iLD 2 1 :: iCONST 3 :: iLD 6 0 :: iMUL :: iCONST 2 :: iADD :: ICMP 4 47 :: am_ju 188 39 := rfl
theorem ju_188_39 : am_ju 188 39 = aLD 0 1 :: gR 11 0 7 1021 :: iLD 5 0 :: CALL 25 1 0 59 1096 :: iCONST 3 :: iADD :: iALD :: GOTO 48 :: am_ju 188 47 := rfl
theorem ju_188_47 : am_ju 188 47 = iCONST 0 :: am_ju 188 48 := rfl
theorem ju_188_48 : am_ju 188 48 = iADD :: iST 3 1 :: IINC 4 1 :: GOTO 6 :: am_ju 188 52 := rfl
theorem ju_188_52 : am_ju 188 52 = iLD 3 1 :: iRET :: [] := rfl
set_option maxRecDepth 100000 in
theorem ju_189_0 : am_ju 189 0 = iLD 1 1 :: iCONST (-1) :: bPUSH 7 :: CALL 17 3 0 47 1083 :: IFC 1 7 :: iCONST (-1) :: iRET :: am_ju 189 7 := rfl
set_option maxRecDepth 100000 in
theorem ju_189_7 : am_ju 189 7 = iCONST 0 :: iST 2 1 :: iCONST 0 :: iST 3 1 :: am_ju 189 11 := rfl
set_option maxRecDepth 100000 in
theorem ju_189_11 : am_ju 189 11 = iLD 3 1 :: aLD 0 1 :: gR 11 0 7 1021 :: iCONST 1 :: iALD :: ICMP 3 34 :: aLD 0 1 :: iLD 3 1 :: CALL 176 2 2 211 1325 :: IFC 0 32 :: iLD 2 1 :: bPUSH 6 :: ICMP 1 26 :: bPUSH (-3) :: iRET :: am_ju 189 26 := rfl
set_option maxRecDepth 100000 in
theorem ju_189_26 : am_ju 189 26 = aLD 0 1 :: gR 11 16 38 1037 :: iLD 2 1 :: iLD 3 1 :: iAST :: IINC 2 1 :: am_ju 189 32 := rfl
set_option maxRecDepth 100000 in
theorem ju_189_32 : am_ju 189 32 = IINC 3 1 :: GOTO 11 :: am_ju 189 34 := rfl
set_option maxRecDepth 100000 in
theorem ju_189_34 : am_ju 189 34 = iCONST (-1) :: iST 3 1 :: iCONST 0 :: iST 4 0 :: am_ju 189 38 := rfl
set_option maxRecDepth 100000 in
theorem ju_189_38 : am_ju 189 38 = iLD 4 0 :: aLD 0 1 :: iLD 2 1 :: iLD 2 1 :: CALL 159 3 2 198 1297 :: ICMP 3 85 :: aLD 0 1 :: iLD 4 0 :: iLD 2 1 :: CALL 187 3 2 217 1337 :: IFC 0 53 :: aLD 0 1 :: iLD 2 1 :: CALL 188 2 2 220 1341 :: GOTO 54 :: am_ju 189 53 := rfl
set_option maxRecDepth 100000 in
theorem ju_189_53 : am_ju 189 53 = iCONST (-1) :: am_ju 189 54 := rfl
set_option maxRecDepth 100000 in
theorem ju_189_54 : am_ju 189 54 = iST 5 0 :: iCONST 0 :: iST 6 0 :: am_ju 189 57 := rfl
set_option maxRecDepth 100000 in
theorem ju_189_57 : am_ju 189 57 = iLD 6 0 :: iLD 2 1 :: ICMP 3 76 :: iLD 5 0 :: iLD 3 1 :: ICMP 5 76 :: aLD 0 1 :: gR 11 18 44 1039 :: iLD 6 0 :: aLD 0 1 :: gR 11 16 38 1037 :: aLD 0 1 :: gR 11 17 41 1038 :: iLD 6 0 :: iALD :: iALD :: iAST :: IINC 6 1 :: GOTO 57 :: am_ju 189 76 := rfl
set_option maxRecDepth 100000 in
theorem ju_189_76 : am_ju 189 76 = iLD 5 0 :: iLD 3 1 :: ICMP 5 81 :: iLD 5 0 :: GOTO 82 :: am_ju 189 81 := rfl
set_option maxRecDepth 100000 in
theorem ju_189_81 : am_ju 189 81 = iLD 3 1 :: am_ju 189 82 := rfl
set_option maxRecDepth 100000 in
theorem ju_189_82 : am_ju 189 82 = iST 3 1 :: IINC 4 1 :: GOTO 38 :: am_ju 189 85 := rfl
set_option maxRecDepth 100000 in
theorem ju_189_85 : am_ju 189 85 = iLD 1 1 :: iCONST (-1) :: ICMP 1 90 :: iLD 3 1 :: GOTO 99 :: am_ju 189 90 := rfl
set_option maxRecDepth 100000 in
theorem ju_189_90 : am_ju 189 90 = iLD 1 1 :: iLD 2 1 :: ICMP 3 98 :: aLD 0 1 :: gR 11 18 44 1039 :: iLD 1 1 :: iALD :: GOTO 99 :: am_ju 189 98 := rfl
set_option maxRecDepth 100000 in
theorem ju_189_98 : am_ju 189 98 = bPUSH (-4) :: am_ju 189 99 := rfl
set_option maxRecDepth 100000 in
theorem ju_189_99 : am_ju 189 99 = iRET :: [] := rfl
theorem ju_190_0 : am_ju 190 0 = iCONST 0 :: iST 4 0 :: iCONST 0 :: iST 5 0 :: iCONST 0 :: iST 6 0 :: iCONST 0 :: iST 7 0 :: aLD 0 1 :: gR 10 0 59 390 :: gR 9 2 107 225 :: gI 3 4 205 179 :: iST 8 0 :: am_ju 190 13 := rfl
theorem ju_190_13 : am_ju 190 13 = iLD 8 0 :: aLD 0 1 :: gR 10 0 59 390 :: gR 9 1 198 222 :: gI 8 1 201 152 :: ICMP 3 49 :: iLD 7 0 :: iLD 3 1 :: ICMP 1 30 :: iLD 6 0 :: IFC 1 26 :: iCONST 1 :: GOTO 27 :: am_ju 190 26 := rfl
theorem ju_190_26 : am_ju 190 26 = iCONST 0 :: am_ju 190 27 := rfl
theorem ju_190_27 : am_ju 190 27 = iST 6 0 :: iCONST 0 :: iST 7 0 :: am_ju 190 30 := rfl
theorem ju_190_30 : am_ju 190 30 = iLD 4 0 :: iLD 6 0 :: IFC 0 35 :: iLD 2 1 :: GOTO 36 :: am_ju 190 35 := rfl
theorem ju_190_35 : am_ju 190 35 = iLD 1 1 :: am_ju 190 36 := rfl
theorem ju_190_36 : am_ju 190 36 = iADD :: iST 4 0 :: iLD 5 0 :: iLD 6 0 :: IFC 0 43 :: iLD 1 1 :: GOTO 44 :: am_ju 190 43 := rfl
theorem ju_190_43 : am_ju 190 43 = iLD 2 1 :: am_ju 190 44 := rfl
theorem ju_190_44 : am_ju 190 44 = iADD :: iST 5 0 :: IINC 7 1 :: IINC 8 1 :: GOTO 13 :: am_ju 190 49 := rfl
theorem ju_190_49 : am_ju 190 49 = iLD 4 0 :: iLD 5 0 :: MMAX 357 918 :: iRET :: [] := rfl
theorem ju_191_0 : am_ju 191 0 = aLD 0 1 :: gR 10 0 59 390 :: gR 9 0 82 217 :: iLD 1 1 :: CALL 28 2 2 104 469 :: IFC 0 12 :: aLD 0 1 :: gR 10 0 59 390 :: gR 9 0 82 217 :: iLD 2 1 :: CALL 28 2 2 104 469 :: IFC 1 14 :: am_ju 191 12 := rfl
theorem ju_191_12 : am_ju 191 12 = iCONST (-1) :: iRET :: am_ju 191 14 := rfl
theorem ju_191_14 : am_ju 191 14 = iLD 1 1 :: iLD 2 1 :: ICMP 0 21 :: iLD 3 1 :: iCONST 2 :: CALL 12 2 0 78 428 :: IFC 1 23 :: am_ju 191 21 := rfl
theorem ju_191_21 : am_ju 191 21 = iCONST (-1) :: iRET :: am_ju 191 23 := rfl
theorem ju_191_23 : am_ju 191 23 = aLD 0 1 :: gR 10 0 59 390 :: gR 9 0 82 217 :: gR 2 1 156 98 :: aLD 0 1 :: gR 10 0 59 390 :: iLD 1 1 :: CALL 39 2 2 123 488 :: CALL 40 2 0 273 855 :: iST 4 0 :: aLD 0 1 :: gR 10 0 59 390 :: gR 9 0 82 217 :: gR 2 1 156 98 :: aLD 0 1 :: gR 10 0 59 390 :: iLD 2 1 :: CALL 39 2 2 123 488 :: CALL 40 2 0 273 855 :: iST 5 0 :: iCONST 1 :: iST 6 0 :: aLD 0 1 :: iLD 4 0 :: iLD 5 0 :: iCONST 1 :: CALL 190 4 2 295 914 :: iST 7 0 :: iCONST 2 :: iST 8 0 :: am_ju 191 53 := rfl
theorem ju_191_53 : am_ju 191 53 = iLD 8 0 :: bPUSH 20 :: ICMP 4 71 :: aLD 0 1 :: iLD 4 0 :: iLD 5 0 :: iLD 8 0 :: CALL 190 4 2 295 914 :: iST 9 0 :: iLD 9 0 :: iLD 7 0 :: ICMP 3 69 :: iLD 9 0 :: iST 7 0 :: iLD 8 0 :: iST 6 0 :: am_ju 191 69 := rfl
theorem ju_191_69 : am_ju 191 69 = IINC 8 1 :: GOTO 53 :: am_ju 191 71 := rfl
theorem ju_191_71 : am_ju 191 71 = iLD 3 1 :: IFC 1 75 :: iLD 6 0 :: GOTO 76 :: am_ju 191 75 := rfl
theorem ju_191_75 : am_ju 191 75 = iLD 7 0 :: am_ju 191 76 := rfl
theorem ju_191_76 : am_ju 191 76 = iRET :: [] := rfl
theorem ju_192_0 : am_ju 192 0 = iCONST 0 :: iST 4 0 :: iCONST 0 :: iST 5 0 :: iCONST 0 :: iST 6 0 :: am_ju 192 6 := rfl
theorem ju_192_6 : am_ju 192 6 = iLD 6 0 :: aLD 0 1 :: gR 11 0 7 1021 :: iCONST 2 :: iALD :: aLD 0 1 :: gR 11 0 7 1021 :: iCONST 3 :: iALD :: iSUB :: ICMP 3 54 :: iLD 6 0 :: iLD 3 1 :: iDIV :: iCONST 2 :: iREM :: iCONST 1 :: ICMP 1 26 :: iCONST 1 :: GOTO 27 :: am_ju 192 26 := rfl
theorem ju_192_26 : am_ju 192 26 = iCONST 0 :: am_ju 192 27 := rfl
theorem ju_192_27 : am_ju 192 27 = iST 7 0 :: iLD 4 0 :: aLD 0 1 :: gR 11 0 7 1021 :: iLD 7 0 :: IFC 0 35 :: iLD 2 1 :: GOTO 36 :: am_ju 192 35 := rfl
theorem ju_192_35 : am_ju 192 35 = iLD 1 1 :: am_ju 192 36 := rfl
theorem ju_192_36 : am_ju 192 36 = iCONST 0 :: CALL 46 3 0 80 1129 :: iADD :: iST 4 0 :: iLD 5 0 :: aLD 0 1 :: gR 11 0 7 1021 :: iLD 7 0 :: IFC 0 47 :: iLD 1 1 :: GOTO 48 :: am_ju 192 47 := rfl
theorem ju_192_47 : am_ju 192 47 = iLD 2 1 :: am_ju 192 48 := rfl
theorem ju_192_48 : am_ju 192 48 = iCONST 0 :: CALL 46 3 0 80 1129 :: iADD :: iST 5 0 :: IINC 6 1 :: GOTO 6 :: am_ju 192 54 := rfl
theorem ju_192_54 : am_ju 192 54 = iLD 4 0 :: iLD 5 0 :: ICMP 5 59 :: iLD 4 0 :: GOTO 60 :: am_ju 192 59 := rfl
theorem ju_192_59 : am_ju 192 59 = iLD 5 0 :: am_ju 192 60 := rfl
theorem ju_192_60 : am_ju 192 60 = iRET :: [] := rfl
theorem ju_193_0 : am_ju 193 0 = aLD 0 1 :: iLD 1 1 :: CALL 33 2 2 70 1107 :: IFC 0 16 :: aLD 0 1 :: iLD 2 1 :: CALL 33 2 2 70 1107 :: IFC 0 16 :: iLD 1 1 :: iLD 2 1 :: ICMP 0 16 :: iLD 3 1 :: iCONST 0 :: iCONST 1 :: CALL 17 3 0 47 1083 :: IFC 1 18 :: am_ju 193 16 := rfl
theorem ju_193_16 : am_ju 193 16 = iCONST (-1) :: iRET :: am_ju 193 18 := rfl
theorem ju_193_18 : am_ju 193 18 = iCONST 1 :: iST 4 0 :: iCONST 2 :: iST 5 0 :: am_ju 193 22 := rfl
theorem ju_193_22 : am_ju 193 22 = iLD 5 0 :: bPUSH 21 :: ICMP 3 42 :: aLD 0 1 :: iLD 1 1 :: iLD 2 1 :: iLD 5 0 :: CALL 192 4 2 223 1349 :: aLD 0 1 :: iLD 1 1 :: iLD 2 1 :: iLD 4 0 :: CALL 192 4 2 223 1349 :: ICMP 3 38 :: iLD 5 0 :: GOTO 39 :: am_ju 193 38 := rfl
theorem ju_193_38 : am_ju 193 38 = iLD 4 0 :: am_ju 193 39 := rfl
theorem ju_193_39 : am_ju 193 39 = iST 4 0 :: IINC 5 1 :: GOTO 22 :: am_ju 193 42 := rfl
theorem ju_193_42 : am_ju 193 42 = iLD 3 1 :: IFC 1 46 :: iLD 4 0 :: GOTO 51 :: am_ju 193 46 := rfl
theorem ju_193_46 : am_ju 193 46 = aLD 0 1 :: iLD 1 1 :: iLD 2 1 :: iLD 4 0 :: CALL 192 4 2 223 1349 :: am_ju 193 51 := rfl
theorem ju_193_51 : am_ju 193 51 = iRET :: [] := rfl
theorem ju_194_0 : am_ju 194 0 = aLD 0 1 :: gR 4 0 44 334 :: gR 9 1 54 221 :: aST 3 1 :: aLD 0 1 :: gR 4 0 44 334 :: aLD 0 1 :: gR 4 1 12 335 :: iLD 1 1 :: aLD 0 1 :: gR 4 0 44 334 :: iLD 1 1 :: CALL 39 2 2 80 750 :: CALL 42 4 2 48 751 :: aLD 0 1 :: gR 4 0 44 334 :: gR 9 2 58 224 :: gI 3 4 62 177 :: iST 4 0 :: am_ju 194 19 := rfl
theorem ju_194_19 : am_ju 194 19 = iLD 4 0 :: aLD 3 1 :: gI 8 1 106 149 :: ICMP 3 45 :: aLD 0 1 :: gR 4 2 18 336 :: iLD 4 0 :: DUP2 :: iALD :: aLD 0 1 :: gR 4 1 12 335 :: aLD 0 1 :: gR 4 0 44 334 :: gR 9 0 71 218 :: aLD 3 1 :: iLD 4 0 :: CALL 100 2 2 97 770 :: aLD 3 1 :: iLD 4 0 :: iLD 2 1 :: CALL 113 3 2 116 780 :: CALL 118 4 2 177 931 :: iOR :: iAST :: IINC 4 1 :: GOTO 19 :: am_ju 194 45 := rfl
theorem ju_194_45 : am_ju 194 45 = vRET :: [] := rfl
theorem ju_195_0 : am_ju 195 0 = aLD 0 1 :: gR 4 2 18 336 :: iCONST 0 :: CALL 79 2 0 128 814 :: aLD 0 1 :: iLD 1 1 :: iLD 2 1 :: CALL 194 3 2 173 927 :: iCONST 0 :: iST 4 0 :: am_ju 195 10 := rfl
theorem ju_195_10 : am_ju 195 10 = iLD 4 0 :: bPUSH 20 :: ICMP 3 30 :: aLD 0 1 :: gR 4 2 18 336 :: iLD 4 0 :: iALD :: IFC 0 28 :: aLD 0 1 :: gR 4 2 18 336 :: iLD 4 0 :: iALD :: iLD 3 1 :: ICMP 1 26 :: iLD 4 0 :: GOTO 27 :: am_ju 195 26 := rfl
theorem ju_195_26 : am_ju 195 26 = bPUSH 99 :: am_ju 195 27 := rfl
theorem ju_195_27 : am_ju 195 27 = iRET :: am_ju 195 28 := rfl
theorem ju_195_28 : am_ju 195 28 = IINC 4 1 :: GOTO 10 :: am_ju 195 30 := rfl
theorem ju_195_30 : am_ju 195 30 = bPUSH 99 :: iRET :: [] := rfl
theorem ju_196_0 : am_ju 196 0 = aLD 0 1 :: gR 10 0 59 390 :: gR 9 0 82 217 :: iLD 1 1 :: CALL 28 2 2 104 469 :: IFC 0 10 :: iLD 3 1 :: iCONST 2 :: CALL 12 2 0 78 428 :: IFC 1 12 :: am_ju 196 10 := rfl
theorem ju_196_10 : am_ju 196 10 = iCONST (-1) :: iRET :: am_ju 196 12 := rfl
theorem ju_196_12 : am_ju 196 12 = iLD 2 1 :: iCONST 1 :: ICMP 2 23 :: iLD 2 1 :: iCONST 1 :: aLD 0 1 :: gR 10 0 59 390 :: gR 9 0 82 217 :: gI 2 7 93 119 :: iSHL :: ICMP 2 25 :: am_ju 196 23 := rfl
theorem ju_196_23 : am_ju 196 23 = iCONST (-1) :: iRET :: am_ju 196 25 := rfl
theorem ju_196_25 : am_ju 196 25 = iCONST 0 :: iST 4 0 :: bPUSH 99 :: iST 5 0 :: iCONST 0 :: iST 6 0 :: am_ju 196 31 := rfl
theorem ju_196_31 : am_ju 196 31 = iLD 6 0 :: bPUSH 8 :: ICMP 3 51 :: aLD 0 1 :: gR 10 3 67 393 :: iLD 1 1 :: iLD 6 0 :: iLD 2 1 :: CALL 195 4 2 299 923 :: iST 7 0 :: iLD 7 0 :: bPUSH 99 :: ICMP 3 45 :: IINC 4 1 :: am_ju 196 45 := rfl
theorem ju_196_45 : am_ju 196 45 = iLD 5 0 :: iLD 7 0 :: MMIN 302 587 :: iST 5 0 :: IINC 6 1 :: GOTO 31 :: am_ju 196 51 := rfl
theorem ju_196_51 : am_ju 196 51 = iLD 3 1 :: IFC 1 55 :: iLD 4 0 :: GOTO 57 :: am_ju 196 55 := rfl
theorem ju_196_55 : am_ju 196 55 = iLD 5 0 :: CALL 137 1 0 245 759 :: am_ju 196 57 := rfl
theorem ju_196_57 : am_ju 196 57 = iRET :: [] := rfl
theorem ju_197_0 : am_ju 197 0 = aLD 0 1 :: gR 11 0 7 1021 :: aLD 0 1 :: gR 11 1 13 1022 :: CALL 90 2 0 137 1180 :: am_ju 197 5 := rfl
theorem ju_197_5 : am_ju 197 5 = aLD 0 1 :: gR 11 1 13 1022 :: iCONST 3 :: iALD :: aLD 0 1 :: gR 11 1 13 1022 :: iCONST 2 :: iALD :: ICMP 3 39 :: aLD 0 1 :: iLD 1 1 :: pI 11 14 170 1035 :: aLD 0 1 :: aLD 0 1 :: gR 11 1 13 1022 :: iLD 3 1 :: CALL 126 3 2 183 1242 :: POP :: aLD 0 1 :: gI 11 15 157 1036 :: IFC 0 5 :: aLD 0 1 :: gI 11 15 157 1036 :: iLD 2 1 :: ICMP 1 37 :: aLD 0 1 :: gR 11 1 13 1022 :: iCONST 3 :: iALD :: iCONST 1 :: iSUB :: GOTO 38 :: am_ju 197 37 := rfl
theorem ju_197_37 : am_ju 197 37 = iCONST (-1) :: am_ju 197 38 := rfl
theorem ju_197_38 : am_ju 197 38 = iRET :: am_ju 197 39 := rfl
theorem ju_197_39 : am_ju 197 39 = iCONST (-1) :: iRET :: [] := rfl
theorem ju_198_0 : am_ju 198 0 = aLD 0 1 :: iLD 1 1 :: CALL 33 2 2 70 1107 :: IFC 0 21 :: iLD 2 1 :: iCONST 1 :: iCONST 1 :: aLD 0 1 :: gR 11 0 7 1021 :: iCONST 1 :: iALD :: iSHL :: iCONST 1 :: iSUB :: CALL 17 3 0 47 1083 :: IFC 0 21 :: iLD 3 1 :: iCONST 0 :: iCONST 1 :: CALL 17 3 0 47 1083 :: IFC 1 23 :: am_ju 198 21 := rfl
theorem ju_198_21 : am_ju 198 21 = iCONST (-1) :: iRET :: am_ju 198 23 := rfl
theorem ju_198_23 : am_ju 198 23 = iCONST 0 :: iST 4 0 :: iCONST (-1) :: iST 5 0 :: iCONST 0 :: iST 6 0 :: am_ju 198 29 := rfl
theorem ju_198_29 : am_ju 198 29 = iLD 6 0 :: bPUSH 8 :: ICMP 3 59 :: aLD 0 1 :: iLD 1 1 :: iLD 2 1 :: iLD 6 0 :: CALL 197 4 2 227 1357 :: iST 7 0 :: iLD 7 0 :: IFC 2 47 :: iLD 5 0 :: IFC 2 45 :: iLD 7 0 :: iLD 5 0 :: ICMP 3 47 :: am_ju 198 45 := rfl
theorem ju_198_45 : am_ju 198 45 = iLD 7 0 :: GOTO 48 :: am_ju 198 47 := rfl
theorem ju_198_47 : am_ju 198 47 = iLD 5 0 :: am_ju 198 48 := rfl
theorem ju_198_48 : am_ju 198 48 = iST 5 0 :: iLD 4 0 :: iLD 7 0 :: IFC 2 54 :: iCONST 1 :: GOTO 55 :: am_ju 198 54 := rfl
theorem ju_198_54 : am_ju 198 54 = iCONST 0 :: am_ju 198 55 := rfl
theorem ju_198_55 : am_ju 198 55 = iADD :: iST 4 0 :: IINC 6 1 :: GOTO 29 :: am_ju 198 59 := rfl
theorem ju_198_59 : am_ju 198 59 = iLD 3 1 :: IFC 1 63 :: iLD 4 0 :: GOTO 68 :: am_ju 198 63 := rfl
theorem ju_198_63 : am_ju 198 63 = iLD 5 0 :: IFC 3 67 :: bPUSH (-4) :: GOTO 68 :: am_ju 198 67 := rfl
theorem ju_198_67 : am_ju 198 67 = iLD 5 0 :: am_ju 198 68 := rfl
theorem ju_198_68 : am_ju 198 68 = iRET :: [] := rfl
theorem ju_199_0 : am_ju 199 0 = iCONST 0 :: iST 2 1 :: am_ju 199 2 := rfl
theorem ju_199_2 : am_ju 199 2 = iLD 2 1 :: bPUSH 8 :: ICMP 3 16 :: aLD 0 1 :: gR 5 0 11 204 :: iLD 2 1 :: aALD :: aLD 1 1 :: gR 5 0 11 204 :: iLD 2 1 :: aALD :: CALL 110 2 2 25 680 :: IINC 2 1 :: GOTO 2 :: am_ju 199 16 := rfl
theorem ju_199_16 : am_ju 199 16 = aLD 0 1 :: aLD 1 1 :: gI 5 1 17 205 :: pI 5 1 17 205 :: aLD 0 1 :: aLD 1 1 :: gI 5 2 21 206 :: pI 5 2 21 206 :: vRET :: [] := rfl
theorem ju_200_0 : am_ju 200 0 = aLD 0 1 :: gR 9 0 12 216 :: aLD 1 1 :: gR 9 0 12 216 :: CALL 87 2 2 71 635 :: aLD 0 1 :: gR 9 1 21 220 :: aLD 1 1 :: gR 9 1 21 220 :: CALL 72 2 2 64 580 :: aLD 0 1 :: gR 9 2 28 223 :: aLD 1 1 :: gR 9 2 28 223 :: CALL 110 2 2 82 940 :: aLD 0 1 :: gR 9 3 35 226 :: aLD 1 1 :: gR 9 3 35 226 :: CALL 199 2 2 85 941 :: vRET :: [] := rfl
theorem ju_201_0 : am_ju 201 0 = aLD 0 1 :: gR 10 1 10 391 :: aLD 0 1 :: gR 10 0 59 390 :: CALL 200 2 2 307 936 :: aLD 0 1 :: iCONST 1 :: pZ 10 2 16 392 :: iCONST 1 :: iRET :: [] := rfl
theorem ju_202_0 : am_ju 202 0 = aLD 0 1 :: gR 11 0 7 1021 :: aLD 0 1 :: gR 11 3 19 1024 :: CALL 90 2 0 137 1180 :: aLD 0 1 :: iCONST 1 :: pZ 11 4 230 1025 :: iCONST 1 :: iRET :: [] := rfl
theorem ju_203_0 : am_ju 203 0 = aLD 0 1 :: gI 10 2 16 392 :: IFC 1 5 :: bPUSH (-4) :: iRET :: am_ju 203 5 := rfl
theorem ju_203_5 : am_ju 203 5 = aLD 0 1 :: gR 10 0 59 390 :: aLD 0 1 :: gR 10 1 10 391 :: CALL 200 2 2 307 936 :: iCONST 1 :: iRET :: [] := rfl
theorem ju_204_0 : am_ju 204 0 = aLD 0 1 :: gI 11 4 230 1025 :: IFC 1 5 :: bPUSH (-4) :: iRET :: am_ju 204 5 := rfl
theorem ju_204_5 : am_ju 204 5 = aLD 0 1 :: gR 11 3 19 1024 :: aLD 0 1 :: gR 11 0 7 1021 :: CALL 90 2 0 137 1180 :: iCONST 1 :: iRET :: [] := rfl
theorem ju_205_0 : am_ju 205 0 = iLD 0 1 :: iCONST 4 :: CALL 12 2 0 78 428 :: IFC 0 10 :: iLD 1 1 :: iCONST 4 :: CALL 12 2 0 78 428 :: IFC 0 10 :: iCONST 1 :: GOTO 11 :: am_ju 205 10 := rfl
theorem ju_205_10 : am_ju 205 10 = iCONST 0 :: am_ju 205 11 := rfl
theorem ju_205_11 : am_ju 205 11 = zRET :: [] := rfl
theorem ju_206_0 : am_ju 206 0 = iLD 1 1 :: IFC 2 16 :: iLD 2 1 :: IFC 2 16 :: iLD 2 1 :: aLD 0 1 :: gI 6 3 23 314 :: ICMP 4 16 :: iLD 1 1 :: aLD 0 1 :: gI 6 3 23 314 :: iLD 2 1 :: iSUB :: ICMP 4 16 :: iCONST 1 :: GOTO 17 :: am_ju 206 16 := rfl
theorem ju_206_16 : am_ju 206 16 = iCONST 0 :: am_ju 206 17 := rfl
theorem ju_206_17 : am_ju 206 17 = zRET :: [] := rfl
theorem ju_207_0 : am_ju 207 0 = aLD 0 1 :: gI 6 1 15 310 :: IFC 0 5 :: bPUSH (-11) :: iRET :: am_ju 207 5 := rfl
theorem ju_207_5 : am_ju 207 5 = iLD 1 1 :: aLD 0 1 :: gI 6 2 19 312 :: ICMP 0 11 :: bPUSH (-12) :: iRET :: am_ju 207 11 := rfl
theorem ju_207_11 : am_ju 207 11 = aLD 0 1 :: iLD 2 1 :: iLD 3 1 :: CALL 206 3 2 38 960 :: IFC 0 18 :: iCONST 0 :: GOTO 19 :: am_ju 207 18 := rfl
theorem ju_207_18 : am_ju 207 18 = bPUSH (-13) :: am_ju 207 19 := rfl
theorem ju_207_19 : am_ju 207 19 = iRET :: [] := rfl
theorem ju_208_0 : am_ju 208 0 = iLD 1 1 :: bPUSH 24 :: CALL 12 2 1 42 973 :: IFC 0 9 :: aLD 0 1 :: gR 6 0 9 308 :: iLD 1 1 :: lALD :: GOTO 10 :: am_ju 208 9 := rfl
theorem ju_208_9 : am_ju 208 9 = lCONST 0 :: am_ju 208 10 := rfl
theorem ju_208_10 : am_ju 208 10 = lRET :: [] := rfl
theorem ju_209_0 : am_ju 209 0 = aLD 0 1 :: gR 4 0 44 334 :: aLD 0 1 :: gR 4 1 12 335 :: iLD 1 1 :: aLD 0 1 :: gR 4 0 44 334 :: iLD 1 1 :: CALL 39 2 2 80 750 :: CALL 42 4 2 48 751 :: aLD 0 1 :: gR 4 1 12 335 :: iLD 2 1 :: pI 0 1 181 250 :: iCONST 0 :: iST 6 0 :: am_ju 209 16 := rfl
theorem ju_209_16 : am_ju 209 16 = iLD 6 0 :: iLD 5 0 :: ICMP 3 47 :: aLD 0 1 :: gR 4 1 12 335 :: aLD 0 1 :: gR 4 0 44 334 :: gR 9 1 54 221 :: aLD 0 1 :: gR 4 0 44 334 :: gR 9 2 58 224 :: gI 3 4 62 177 :: iLD 6 0 :: iADD :: CALL 100 2 2 97 770 :: CALL 114 2 2 109 775 :: aLD 0 1 :: gR 4 1 12 335 :: CALL 43 1 2 184 968 :: ITL :: aLD 3 1 :: iLD 4 0 :: iLD 6 0 :: iADD :: CALL 208 2 2 187 969 :: lCMP :: IFC 0 45 :: iCONST 0 :: zRET :: am_ju 209 45 := rfl
theorem ju_209_45 : am_ju 209 45 = IINC 6 1 :: GOTO 16 :: am_ju 209 47 := rfl
theorem ju_209_47 : am_ju 209 47 = iCONST 1 :: zRET :: [] := rfl
theorem ju_210_0 : am_ju 210 0 = aLD 0 1 :: gR 10 0 59 390 :: gR 9 0 82 217 :: iLD 1 1 :: CALL 28 2 2 104 469 :: IFC 0 14 :: iLD 2 1 :: iLD 3 1 :: CALL 205 2 0 310 953 :: IFC 0 14 :: iLD 6 0 :: iCONST 2 :: CALL 12 2 0 78 428 :: IFC 1 16 :: am_ju 210 14 := rfl
theorem ju_210_14 : am_ju 210 14 = iCONST (-1) :: iRET :: am_ju 210 16 := rfl
theorem ju_210_16 : am_ju 210 16 = iLD 5 0 :: iCONST 1 :: ICMP 2 27 :: iLD 5 0 :: bPUSH 8 :: ICMP 4 27 :: iLD 5 0 :: aLD 0 1 :: gR 10 0 59 390 :: CALL 109 1 2 228 667 :: ICMP 5 29 :: am_ju 210 27 := rfl
theorem ju_210_27 : am_ju 210 27 = iCONST (-1) :: iRET :: am_ju 210 29 := rfl
theorem ju_210_29 : am_ju 210 29 = aLD 0 1 :: gR 10 10 55 400 :: iLD 2 1 :: aALD :: iLD 3 1 :: iLD 4 0 :: iLD 5 0 :: CALL 207 4 2 313 956 :: iST 7 0 :: iLD 7 0 :: IFC 0 42 :: iLD 7 0 :: iRET :: am_ju 210 42 := rfl
theorem ju_210_42 : am_ju 210 42 = iCONST 0 :: iST 8 0 :: bPUSH (-4) :: iST 9 0 :: bPUSH 99 :: iST 10 0 :: am_ju 210 48 := rfl
theorem ju_210_48 : am_ju 210 48 = iLD 10 0 :: IFC 2 67 :: aLD 0 1 :: gR 10 3 67 393 :: iLD 1 1 :: iLD 10 0 :: aLD 0 1 :: gR 10 10 55 400 :: iLD 2 1 :: aALD :: iLD 4 0 :: iLD 5 0 :: CALL 209 6 2 316 964 :: IFC 0 65 :: IINC 8 1 :: iLD 10 0 :: iST 9 0 :: am_ju 210 65 := rfl
theorem ju_210_65 : am_ju 210 65 = IINC 10 (-1) :: GOTO 48 :: am_ju 210 67 := rfl
theorem ju_210_67 : am_ju 210 67 = iLD 6 0 :: IFC 1 71 :: iLD 8 0 :: GOTO 72 :: am_ju 210 71 := rfl
theorem ju_210_71 : am_ju 210 71 = iLD 9 0 :: am_ju 210 72 := rfl
theorem ju_210_72 : am_ju 210 72 = iRET :: [] := rfl
theorem ju_211_0 : am_ju 211 0 = iLD 0 1 :: iCONST 0 :: iCONST 3 :: CALL 17 3 0 47 1083 :: zRET :: [] := rfl
theorem ju_212_0 : am_ju 212 0 = iLD 0 1 :: iCONST 0 :: iCONST 3 :: CALL 17 3 0 47 1083 :: zRET :: [] := rfl
theorem ju_213_0 : am_ju 213 0 = aLD 0 1 :: gR 11 7 25 1028 :: iLD 1 1 :: iALD :: IFC 3 7 :: bPUSH (-11) :: iRET :: am_ju 213 7 := rfl
theorem ju_213_7 : am_ju 213 7 = aLD 0 1 :: gR 11 7 25 1028 :: iLD 1 1 :: iALD :: iLD 2 1 :: ICMP 0 15 :: bPUSH (-12) :: iRET :: am_ju 213 15 := rfl
theorem ju_213_15 : am_ju 213 15 = iLD 3 1 :: IFC 2 31 :: iLD 3 1 :: aLD 0 1 :: gR 11 8 28 1029 :: iLD 1 1 :: iALD :: ICMP 4 31 :: iLD 4 0 :: aLD 0 1 :: gR 11 8 28 1029 :: iLD 1 1 :: iALD :: iLD 3 1 :: iSUB :: ICMP 5 33 :: am_ju 213 31 := rfl
theorem ju_213_31 : am_ju 213 31 = bPUSH (-13) :: GOTO 34 :: am_ju 213 33 := rfl
theorem ju_213_33 : am_ju 213 33 = iCONST 0 :: am_ju 213 34 := rfl
theorem ju_213_34 : am_ju 213 34 = iRET :: [] := rfl
theorem ju_214_0 : am_ju 214 0 = aLD 0 1 :: gR 11 0 7 1021 :: aLD 0 1 :: gR 11 1 13 1022 :: CALL 90 2 0 137 1180 :: aLD 0 1 :: gR 11 1 13 1022 :: iLD 1 1 :: CALL 18 1 0 51 1089 :: iCONST 1 :: iADD :: iLD 2 1 :: iAST :: iCONST 1 :: iST 5 0 :: iCONST 0 :: iST 6 0 :: am_ju 214 17 := rfl
theorem ju_214_17 : am_ju 214 17 = iLD 6 0 :: iLD 4 0 :: ICMP 3 61 :: aLD 0 1 :: gR 11 1 13 1022 :: iLD 1 1 :: CALL 45 2 0 76 1126 :: IFC 0 40 :: aLD 0 1 :: gR 11 1 13 1022 :: iLD 1 1 :: aLD 0 1 :: gR 11 1 13 1022 :: bPUSH 66 :: aLD 0 1 :: gR 11 1 13 1022 :: iCONST 3 :: iALD :: iADD :: iLD 6 0 :: iADD :: iALD :: CALL 123 3 0 160 1246 :: am_ju 214 40 := rfl
theorem ju_214_40 : am_ju 214 40 = iLD 5 0 :: IFC 0 57 :: aLD 0 1 :: gR 11 9 31 1030 :: iLD 3 1 :: iLD 6 0 :: iADD :: lALD :: aLD 0 1 :: gR 11 1 13 1022 :: iLD 1 1 :: CALL 47 2 0 84 1132 :: ITL :: lCMP :: IFC 1 57 :: iCONST 1 :: GOTO 58 :: am_ju 214 57 := rfl
theorem ju_214_57 : am_ju 214 57 = iCONST 0 :: am_ju 214 58 := rfl
theorem ju_214_58 : am_ju 214 58 = iST 5 0 :: IINC 6 1 :: GOTO 17 :: am_ju 214 61 := rfl
theorem ju_214_61 : am_ju 214 61 = iLD 5 0 :: zRET :: [] := rfl
theorem ju_215_0 : am_ju 215 0 = aLD 0 1 :: iLD 1 1 :: CALL 33 2 2 70 1107 :: IFC 0 31 :: iLD 2 1 :: CALL 211 1 0 233 1373 :: IFC 0 31 :: iLD 3 1 :: CALL 212 1 0 236 1376 :: IFC 0 31 :: iLD 5 0 :: iCONST 1 :: bPUSH 8 :: CALL 17 3 0 47 1083 :: IFC 0 31 :: iLD 5 0 :: aLD 0 1 :: gR 11 0 7 1021 :: iCONST 2 :: iALD :: aLD 0 1 :: gR 11 0 7 1021 :: iCONST 3 :: iALD :: iSUB :: ICMP 4 31 :: iLD 6 0 :: iCONST 0 :: iCONST 1 :: CALL 17 3 0 47 1083 :: IFC 1 33 :: am_ju 215 31 := rfl
theorem ju_215_31 : am_ju 215 31 = iCONST (-1) :: iRET :: am_ju 215 33 := rfl
theorem ju_215_33 : am_ju 215 33 = aLD 0 1 :: iLD 2 1 :: iLD 3 1 :: iLD 4 0 :: iLD 5 0 :: CALL 213 5 2 239 1379 :: iST 7 0 :: iLD 7 0 :: IFC 0 44 :: iLD 7 0 :: iRET :: am_ju 215 44 := rfl
theorem ju_215_44 : am_ju 215 44 = iCONST 0 :: iST 8 0 :: bPUSH (-4) :: iST 9 0 :: iCONST 0 :: iST 10 0 :: am_ju 215 50 := rfl
theorem ju_215_50 : am_ju 215 50 = iLD 10 0 :: bPUSH 100 :: ICMP 3 82 :: aLD 0 1 :: iLD 1 1 :: iLD 10 0 :: bPUSH 24 :: iLD 2 1 :: iMUL :: iLD 4 0 :: iADD :: iLD 5 0 :: CALL 214 5 2 243 1383 :: iST 11 0 :: iLD 11 0 :: IFC 0 70 :: iLD 8 0 :: IFC 1 70 :: iLD 10 0 :: GOTO 71 :: am_ju 215 70 := rfl
theorem ju_215_70 : am_ju 215 70 = iLD 9 0 :: am_ju 215 71 := rfl
theorem ju_215_71 : am_ju 215 71 = iST 9 0 :: iLD 8 0 :: iLD 11 0 :: IFC 0 77 :: iCONST 1 :: GOTO 78 :: am_ju 215 77 := rfl
theorem ju_215_77 : am_ju 215 77 = iCONST 0 :: am_ju 215 78 := rfl
theorem ju_215_78 : am_ju 215 78 = iADD :: iST 8 0 :: IINC 10 1 :: GOTO 50 :: am_ju 215 82 := rfl
theorem ju_215_82 : am_ju 215 82 = iLD 6 0 :: IFC 1 86 :: iLD 8 0 :: GOTO 87 :: am_ju 215 86 := rfl
theorem ju_215_86 : am_ju 215 86 = iLD 9 0 :: am_ju 215 87 := rfl
theorem ju_215_87 : am_ju 215 87 = iRET :: [] := rfl
theorem ju_216_0 : am_ju 216 0 = aLD 0 1 :: gR 4 2 18 336 :: iCONST 0 :: CALL 79 2 0 128 814 :: iCONST 0 :: iST 2 1 :: am_ju 216 6 := rfl
theorem ju_216_6 : am_ju 216 6 = iLD 2 1 :: aLD 0 1 :: gR 4 0 44 334 :: gR 9 0 71 218 :: gI 2 6 75 115 :: ICMP 3 18 :: aLD 0 1 :: iLD 2 1 :: iLD 1 1 :: CALL 194 3 2 173 927 :: IINC 2 1 :: GOTO 6 :: am_ju 216 18 := rfl
theorem ju_216_18 : am_ju 216 18 = vRET :: [] := rfl
theorem ju_217_0 : am_ju 217 0 = aLD 0 1 :: gI 6 2 19 312 :: TSW [0, 2, 17, 3, 8, 13] :: am_ju 217 3 := rfl
theorem ju_217_3 : am_ju 217 3 = lLD 1 1 :: LTI :: ITB :: ITL :: lRET :: am_ju 217 8 := rfl
theorem ju_217_8 : am_ju 217 8 = lLD 1 1 :: LTI :: ITS :: ITL :: lRET :: am_ju 217 13 := rfl
theorem ju_217_13 : am_ju 217 13 = lLD 1 1 :: LTI :: ITL :: lRET :: am_ju 217 17 := rfl
theorem ju_217_17 : am_ju 217 17 = lLD 1 1 :: lRET :: [] := rfl
theorem ju_218_0 : am_ju 218 0 = iLD 1 1 :: bPUSH 24 :: CALL 12 2 1 42 973 :: IFC 0 11 :: aLD 0 1 :: gR 6 0 9 308 :: iLD 1 1 :: aLD 0 1 :: lLD 2 1 :: CALL 217 2 2 45 986 :: lAST :: am_ju 218 11 := rfl
theorem ju_218_11 : am_ju 218 11 = vRET :: [] := rfl
theorem ju_219_0 : am_ju 219 0 = iLD 1 1 :: bPUSH 8 :: CALL 12 2 0 78 428 :: IFC 0 8 :: iLD 2 1 :: iLD 3 1 :: CALL 205 2 0 310 953 :: IFC 1 10 :: am_ju 219 8 := rfl
theorem ju_219_8 : am_ju 219 8 = iCONST (-1) :: iRET :: am_ju 219 10 := rfl
theorem ju_219_10 : am_ju 219 10 = aLD 0 1 :: gR 10 0 59 390 :: CALL 109 1 2 228 667 :: iST 5 0 :: aLD 0 1 :: gR 10 10 55 400 :: iLD 2 1 :: aALD :: iLD 3 1 :: iLD 4 0 :: iLD 5 0 :: CALL 207 4 2 313 956 :: iST 6 0 :: iLD 6 0 :: IFC 0 27 :: iLD 6 0 :: iRET :: am_ju 219 27 := rfl
theorem ju_219_27 : am_ju 219 27 = aLD 0 1 :: gR 10 3 67 393 :: iLD 1 1 :: CALL 216 2 2 320 978 :: iCONST 0 :: iST 7 0 :: am_ju 219 33 := rfl
theorem ju_219_33 : am_ju 219 33 = iLD 7 0 :: iLD 5 0 :: ICMP 3 57 :: aLD 0 1 :: gR 10 10 55 400 :: iLD 2 1 :: aALD :: iLD 4 0 :: iLD 7 0 :: iADD :: aLD 0 1 :: gR 10 3 67 393 :: gR 4 2 323 337 :: aLD 0 1 :: gR 10 0 59 390 :: gR 9 2 107 225 :: gI 3 4 205 179 :: iLD 7 0 :: iADD :: iALD :: ITL :: CALL 218 3 2 326 982 :: IINC 7 1 :: GOTO 33 :: am_ju 219 57 := rfl
theorem ju_219_57 : am_ju 219 57 = iLD 5 0 :: iRET :: [] := rfl
theorem ju_220_0 : am_ju 220 0 = iLD 0 1 :: IFC 1 4 :: bPUSH 56 :: GOTO 15 :: am_ju 220 4 := rfl
theorem ju_220_4 : am_ju 220 4 = iLD 0 1 :: iCONST 1 :: ICMP 1 9 :: bPUSH 48 :: GOTO 15 :: am_ju 220 9 := rfl
theorem ju_220_9 : am_ju 220 9 = iLD 0 1 :: iCONST 2 :: ICMP 1 14 :: bPUSH 32 :: GOTO 15 :: am_ju 220 14 := rfl
theorem ju_220_14 : am_ju 220 14 = iCONST 0 :: am_ju 220 15 := rfl
theorem ju_220_15 : am_ju 220 15 = iST 3 1 :: lLD 1 1 :: iLD 3 1 :: lSHL :: iLD 3 1 :: lSHR :: lRET :: [] := rfl
theorem ju_221_0 : am_ju 221 0 = iLD 1 1 :: iCONST 0 :: bPUSH 7 :: CALL 17 3 0 47 1083 :: IFC 0 11 :: iLD 2 1 :: CALL 211 1 0 233 1373 :: IFC 0 11 :: iLD 3 1 :: CALL 212 1 0 236 1376 :: IFC 1 13 :: am_ju 221 11 := rfl
theorem ju_221_11 : am_ju 221 11 = iCONST (-1) :: iRET :: am_ju 221 13 := rfl
theorem ju_221_13 : am_ju 221 13 = aLD 0 1 :: gR 11 0 7 1021 :: iCONST 2 :: iALD :: aLD 0 1 :: gR 11 0 7 1021 :: iCONST 3 :: iALD :: iSUB :: iST 5 0 :: aLD 0 1 :: iLD 2 1 :: iLD 3 1 :: iLD 4 0 :: iLD 5 0 :: CALL 213 5 2 239 1379 :: iST 6 0 :: iLD 6 0 :: IFC 0 34 :: iLD 6 0 :: iRET :: am_ju 221 34 := rfl
theorem ju_221_34 : am_ju 221 34 = aLD 0 1 :: gR 11 0 7 1021 :: aLD 0 1 :: gR 11 1 13 1022 :: CALL 90 2 0 137 1180 :: iCONST 0 :: iST 7 0 :: am_ju 221 41 := rfl
theorem ju_221_41 : am_ju 221 41 = iLD 7 0 :: iLD 5 0 :: ICMP 3 64 :: aLD 0 1 :: gR 11 9 31 1030 :: bPUSH 24 :: iLD 2 1 :: iMUL :: iLD 4 0 :: iADD :: iLD 7 0 :: iADD :: iLD 3 1 :: aLD 0 1 :: aLD 0 1 :: gR 11 1 13 1022 :: iLD 1 1 :: CALL 126 3 2 183 1242 :: ITL :: CALL 220 2 0 247 1391 :: lAST :: IINC 7 1 :: GOTO 41 :: am_ju 221 64 := rfl
theorem ju_221_64 : am_ju 221 64 = iLD 5 0 :: iRET :: [] := rfl
theorem ju_222_0 : am_ju 222 0 = iCONST 0 :: iST 3 1 :: aLD 0 1 :: aLEN :: iST 4 0 :: am_ju 222 5 := rfl
theorem ju_222_5 : am_ju 222 5 = iLD 3 1 :: iLD 4 0 :: ICMP 3 14 :: aLD 0 1 :: iLD 3 1 :: lLD 1 1 :: lAST :: IINC 3 1 :: GOTO 5 :: am_ju 222 14 := rfl
theorem ju_222_14 : am_ju 222 14 = vRET :: [] := rfl
theorem ju_223_0 : am_ju 223 0 = aLD 0 1 :: iCONST 0 :: pZ 6 1 15 310 :: aLD 0 1 :: iLD 1 1 :: pI 6 2 19 312 :: aLD 0 1 :: iLD 2 1 :: bPUSH 24 :: MMIN 26 998 :: pI 6 3 23 314 :: aLD 0 1 :: gR 6 0 9 308 :: lCONST 0 :: CALL 222 2 0 32 999 :: vRET :: [] := rfl
theorem ju_224_0 : am_ju 224 0 = iLD 1 1 :: iLD 2 1 :: CALL 205 2 0 310 953 :: IFC 0 7 :: iLD 3 1 :: bPUSH 24 :: ICMP 5 9 :: am_ju 224 7 := rfl
theorem ju_224_7 : am_ju 224 7 = iCONST (-1) :: iRET :: am_ju 224 9 := rfl
theorem ju_224_9 : am_ju 224 9 = iLD 3 1 :: IFC 3 13 :: bPUSH (-14) :: iRET :: am_ju 224 13 := rfl
theorem ju_224_13 : am_ju 224 13 = aLD 0 1 :: gR 10 10 55 400 :: iLD 1 1 :: aALD :: iLD 2 1 :: iLD 3 1 :: CALL 223 3 2 330 994 :: iLD 3 1 :: iRET :: [] := rfl
theorem ju_225_0 : am_ju 225 0 = iLD 1 1 :: CALL 211 1 0 233 1373 :: IFC 0 9 :: iLD 2 1 :: CALL 212 1 0 236 1376 :: IFC 0 9 :: iLD 3 1 :: bPUSH 24 :: ICMP 5 11 :: am_ju 225 9 := rfl
theorem ju_225_9 : am_ju 225 9 = iCONST (-1) :: iRET :: am_ju 225 11 := rfl
theorem ju_225_11 : am_ju 225 11 = iLD 3 1 :: IFC 3 15 :: bPUSH (-14) :: iRET :: am_ju 225 15 := rfl
theorem ju_225_15 : am_ju 225 15 = aLD 0 1 :: gR 11 7 25 1028 :: iLD 1 1 :: iLD 2 1 :: iAST :: aLD 0 1 :: gR 11 8 28 1029 :: iLD 1 1 :: iLD 3 1 :: iAST :: iCONST 0 :: iST 4 0 :: am_ju 225 27 := rfl
theorem ju_225_27 : am_ju 225 27 = iLD 4 0 :: bPUSH 24 :: ICMP 3 41 :: aLD 0 1 :: gR 11 9 31 1030 :: bPUSH 24 :: iLD 1 1 :: iMUL :: iLD 4 0 :: iADD :: lCONST 0 :: lAST :: IINC 4 1 :: GOTO 27 :: am_ju 225 41 := rfl
theorem ju_225_41 : am_ju 225 41 = iLD 3 1 :: iRET :: [] := rfl
theorem ju_226_0 : am_ju 226 0 = iLD 1 1 :: iCONST 4 :: CALL 12 2 0 78 428 :: IFC 1 6 :: iCONST (-1) :: iRET :: am_ju 226 6 := rfl
theorem ju_226_6 : am_ju 226 6 = aLD 0 1 :: gR 10 10 55 400 :: iLD 1 1 :: aALD :: gI 6 1 334 311 :: IFC 0 14 :: bPUSH (-11) :: iRET :: am_ju 226 14 := rfl
theorem ju_226_14 : am_ju 226 14 = aLD 0 1 :: gR 10 10 55 400 :: iLD 1 1 :: aALD :: iCONST 1 :: pZ 6 1 334 311 :: aLD 0 1 :: gR 10 10 55 400 :: iLD 1 1 :: aALD :: gI 6 3 337 315 :: iRET :: [] := rfl
theorem ju_227_0 : am_ju 227 0 = iLD 1 1 :: CALL 211 1 0 233 1373 :: IFC 1 5 :: iCONST (-1) :: iRET :: am_ju 227 5 := rfl
theorem ju_227_5 : am_ju 227 5 = aLD 0 1 :: gR 11 7 25 1028 :: iLD 1 1 :: iALD :: IFC 3 12 :: bPUSH (-11) :: iRET :: am_ju 227 12 := rfl
theorem ju_227_12 : am_ju 227 12 = aLD 0 1 :: gR 11 7 25 1028 :: iLD 1 1 :: iCONST (-1) :: iAST :: aLD 0 1 :: gR 11 8 28 1029 :: iLD 1 1 :: iALD :: iRET :: [] := rfl
theorem ju_228_0 : am_ju 228 0 = iLD 1 1 :: iLD 2 1 :: CALL 205 2 0 310 953 :: IFC 1 6 :: iCONST (-1) :: iRET :: am_ju 228 6 := rfl
theorem ju_228_6 : am_ju 228 6 = aLD 0 1 :: gR 10 10 55 400 :: iLD 1 1 :: aALD :: iLD 2 1 :: iLD 3 1 :: iCONST 1 :: CALL 207 4 2 313 956 :: iST 6 0 :: iLD 6 0 :: IFC 0 19 :: iLD 6 0 :: iRET :: am_ju 228 19 := rfl
theorem ju_228_19 : am_ju 228 19 = aLD 0 1 :: gR 10 10 55 400 :: iLD 1 1 :: aALD :: iLD 3 1 :: lLD 4 0 :: CALL 218 3 2 326 982 :: iCONST 1 :: iRET :: [] := rfl
theorem ju_229_0 : am_ju 229 0 = iLD 1 1 :: CALL 211 1 0 233 1373 :: IFC 0 6 :: iLD 2 1 :: CALL 212 1 0 236 1376 :: IFC 1 8 :: am_ju 229 6 := rfl
theorem ju_229_6 : am_ju 229 6 = iCONST (-1) :: iRET :: am_ju 229 8 := rfl
theorem ju_229_8 : am_ju 229 8 = aLD 0 1 :: iLD 1 1 :: iLD 2 1 :: iLD 3 1 :: iCONST 1 :: CALL 213 5 2 239 1379 :: iST 6 0 :: iLD 6 0 :: IFC 0 19 :: iLD 6 0 :: iRET :: am_ju 229 19 := rfl
theorem ju_229_19 : am_ju 229 19 = aLD 0 1 :: gR 11 9 31 1030 :: bPUSH 24 :: iLD 1 1 :: iMUL :: iLD 3 1 :: iADD :: iLD 2 1 :: lLD 4 0 :: CALL 220 2 0 247 1391 :: lAST :: iCONST 1 :: iRET :: [] := rfl
theorem ju_230_0 : am_ju 230 0 = iLD 1 1 :: iCONST 4 :: CALL 12 2 0 78 428 :: IFC 0 8 :: iLD 3 1 :: iCONST 4 :: CALL 12 2 0 78 428 :: IFC 1 10 :: am_ju 230 8 := rfl
theorem ju_230_8 : am_ju 230 8 = iCONST (-1) :: iRET :: am_ju 230 10 := rfl
theorem ju_230_10 : am_ju 230 10 = aLD 0 1 :: gR 10 10 55 400 :: iLD 1 1 :: aALD :: aST 6 0 :: aLD 0 1 :: gR 10 10 55 400 :: iLD 3 1 :: aALD :: aST 7 0 :: aLD 6 0 :: gI 6 1 334 311 :: IFC 1 26 :: aLD 7 0 :: gI 6 1 334 311 :: IFC 0 28 :: am_ju 230 26 := rfl
theorem ju_230_26 : am_ju 230 26 = bPUSH (-11) :: iRET :: am_ju 230 28 := rfl
theorem ju_230_28 : am_ju 230 28 = aLD 6 0 :: gI 6 2 338 313 :: aLD 7 0 :: gI 6 2 338 313 :: ICMP 0 35 :: bPUSH (-12) :: iRET :: am_ju 230 35 := rfl
theorem ju_230_35 : am_ju 230 35 = aLD 6 0 :: iLD 2 1 :: iLD 5 0 :: CALL 206 3 2 341 1014 :: IFC 0 45 :: aLD 7 0 :: iLD 4 0 :: iLD 5 0 :: CALL 206 3 2 341 1014 :: IFC 1 47 :: am_ju 230 45 := rfl
theorem ju_230_45 : am_ju 230 45 = bPUSH (-13) :: iRET :: am_ju 230 47 := rfl
theorem ju_230_47 : am_ju 230 47 = aLD 6 0 :: gR 6 0 344 309 :: iLD 2 1 :: aLD 7 0 :: gR 6 0 344 309 :: iLD 4 0 :: iLD 5 0 :: ACPY 348 590 :: iLD 5 0 :: iRET :: [] := rfl
set_option maxRecDepth 100000 in
theorem ju_231_0 : am_ju 231 0 = iLD 1 1 :: CALL 211 1 0 233 1373 :: IFC 0 6 :: iLD 3 1 :: CALL 211 1 0 233 1373 :: IFC 1 8 :: am_ju 231 6 := rfl
set_option maxRecDepth 100000 in
theorem ju_231_6 : am_ju 231 6 = iCONST (-1) :: iRET :: am_ju 231 8 := rfl
set_option maxRecDepth 100000 in
theorem ju_231_8 : am_ju 231 8 = aLD 0 1 :: gR 11 7 25 1028 :: iLD 1 1 :: iALD :: IFC 2 18 :: aLD 0 1 :: gR 11 7 25 1028 :: iLD 3 1 :: iALD :: IFC 3 20 :: am_ju 231 18 := rfl
set_option maxRecDepth 100000 in
theorem ju_231_18 : am_ju 231 18 = bPUSH (-11) :: iRET :: am_ju 231 20 := rfl
set_option maxRecDepth 100000 in
theorem ju_231_20 : am_ju 231 20 = aLD 0 1 :: gR 11 7 25 1028 :: iLD 1 1 :: iALD :: aLD 0 1 :: gR 11 7 25 1028 :: iLD 3 1 :: iALD :: ICMP 0 31 :: bPUSH (-12) :: iRET :: am_ju 231 31 := rfl
set_option maxRecDepth 100000 in
theorem ju_231_31 : am_ju 231 31 = iLD 5 0 :: IFC 2 53 :: aLD 0 1 :: iLD 1 1 :: aLD 0 1 :: gR 11 7 25 1028 :: iLD 1 1 :: iALD :: iLD 2 1 :: iLD 5 0 :: CALL 213 5 2 239 1379 :: IFC 1 53 :: aLD 0 1 :: iLD 3 1 :: aLD 0 1 :: gR 11 7 25 1028 :: iLD 3 1 :: iALD :: iLD 4 0 :: iLD 5 0 :: CALL 213 5 2 239 1379 :: IFC 0 55 :: am_ju 231 53 := rfl
set_option maxRecDepth 100000 in
theorem ju_231_53 : am_ju 231 53 = bPUSH (-13) :: iRET :: am_ju 231 55 := rfl
set_option maxRecDepth 100000 in
theorem ju_231_55 : am_ju 231 55 = iCONST 0 :: iST 6 0 :: am_ju 231 57 := rfl
set_option maxRecDepth 100000 in
theorem ju_231_57 : am_ju 231 57 = iLD 6 0 :: iLD 5 0 :: ICMP 3 76 :: aLD 0 1 :: gR 11 10 35 1031 :: iLD 6 0 :: aLD 0 1 :: gR 11 9 31 1030 :: bPUSH 24 :: iLD 1 1 :: iMUL :: iLD 2 1 :: iADD :: iLD 6 0 :: iADD :: lALD :: lAST :: IINC 6 1 :: GOTO 57 :: am_ju 231 76 := rfl
set_option maxRecDepth 100000 in
theorem ju_231_76 : am_ju 231 76 = iCONST 0 :: iST 6 0 :: am_ju 231 78 := rfl
set_option maxRecDepth 100000 in
theorem ju_231_78 : am_ju 231 78 = iLD 6 0 :: iLD 5 0 :: ICMP 3 97 :: aLD 0 1 :: gR 11 9 31 1030 :: bPUSH 24 :: iLD 3 1 :: iMUL :: iLD 4 0 :: iADD :: iLD 6 0 :: iADD :: aLD 0 1 :: gR 11 10 35 1031 :: iLD 6 0 :: lALD :: lAST :: IINC 6 1 :: GOTO 78 :: am_ju 231 97 := rfl
set_option maxRecDepth 100000 in
theorem ju_231_97 : am_ju 231 97 = iLD 5 0 :: iRET :: [] := rfl
set_option maxRecDepth 100000 in
theorem ju_232_0 : am_ju 232 0 = NEW 10 7 73 :: DUP :: CALL 10 1 4 9 75 :: aST 1 1 :: NEW 11 10 1015 :: DUP :: CALL 11 1 4 12 1017 :: aST 2 1 :: iCONST 0 :: iST 3 1 :: am_ju 232 10 := rfl
set_option maxRecDepth 100000 in
theorem ju_232_10 : am_ju 232 10 = iLD 3 1 :: aLD 0 1 :: aLEN :: bPUSH 7 :: iSUB :: ICMP 4 893 :: aLD 0 1 :: iLD 3 1 :: iALD :: bPUSH 63 :: iAND :: TSW [0, 34, 891, 22, 39, 96, 123, 140, 167, 194, 231, 258, 295, 312, 319, 326, 343, 360, 367, 374, 381, 398, 415, 432, 449, 456, 473, 490, 507, 544, 581, 588, 595, 662, 709, 746, 763, 834] :: am_ju 232 22 := rfl
set_option maxRecDepth 100000 in
theorem ju_232_22 : am_ju 232 22 = aLD 1 1 :: aLD 0 1 :: iLD 3 1 :: iCONST 1 :: iADD :: iALD :: CALL 16 2 2 13 424 :: aLD 2 1 :: aLD 0 1 :: iLD 3 1 :: iCONST 1 :: iADD :: iALD :: CALL 20 2 2 17 1079 :: ICMP 0 891 :: iCONST 0 :: zRET :: am_ju 232 39 := rfl
set_option maxRecDepth 100000 in
theorem ju_232_39 : am_ju 232 39 = aLD 1 1 :: aLD 0 1 :: iLD 3 1 :: iCONST 1 :: iADD :: iALD :: aLD 0 1 :: iLD 3 1 :: iCONST 2 :: iADD :: iALD :: aLD 0 1 :: iLD 3 1 :: iCONST 3 :: iADD :: iALD :: aLD 0 1 :: iLD 3 1 :: iCONST 4 :: iADD :: iALD :: aLD 0 1 :: iLD 3 1 :: iCONST 5 :: iADD :: iALD :: CALL 24 6 2 18 444 :: aLD 2 1 :: aLD 0 1 :: iLD 3 1 :: iCONST 1 :: iADD :: iALD :: aLD 0 1 :: iLD 3 1 :: iCONST 2 :: iADD :: iALD :: aLD 0 1 :: iLD 3 1 :: iCONST 3 :: iADD :: iALD :: aLD 0 1 :: iLD 3 1 :: iCONST 4 :: iADD :: iALD :: aLD 0 1 :: iLD 3 1 :: iCONST 5 :: iADD :: iALD :: CALL 26 6 2 22 1092 :: ICMP 0 891 :: iCONST 0 :: zRET :: am_ju 232 96 := rfl
set_option maxRecDepth 100000 in
theorem ju_232_96 : am_ju 232 96 = aLD 1 1 :: aLD 0 1 :: iLD 3 1 :: iCONST 1 :: iADD :: iALD :: aLD 0 1 :: iLD 3 1 :: iCONST 2 :: iADD :: iALD :: CALL 31 3 2 23 460 :: aLD 2 1 :: aLD 0 1 :: iLD 3 1 :: iCONST 1 :: iADD :: iALD :: aLD 0 1 :: iLD 3 1 :: iCONST 2 :: iADD :: iALD :: CALL 36 3 2 27 1099 :: ICMP 0 891 :: iCONST 0 :: zRET :: am_ju 232 123 := rfl
set_option maxRecDepth 100000 in
theorem ju_232_123 : am_ju 232 123 = aLD 1 1 :: aLD 0 1 :: iLD 3 1 :: iCONST 1 :: iADD :: iALD :: CALL 37 2 2 28 480 :: aLD 2 1 :: aLD 0 1 :: iLD 3 1 :: iCONST 1 :: iADD :: iALD :: CALL 38 2 2 31 1118 :: ICMP 0 891 :: iCONST 0 :: zRET :: am_ju 232 140 := rfl
set_option maxRecDepth 100000 in
theorem ju_232_140 : am_ju 232 140 = aLD 1 1 :: aLD 0 1 :: iLD 3 1 :: iCONST 1 :: iADD :: iALD :: aLD 0 1 :: iLD 3 1 :: iCONST 2 :: iADD :: iALD :: CALL 44 3 2 32 484 :: aLD 2 1 :: aLD 0 1 :: iLD 3 1 :: iCONST 1 :: iADD :: iALD :: aLD 0 1 :: iLD 3 1 :: iCONST 2 :: iADD :: iALD :: CALL 48 3 2 35 1122 :: ICMP 0 891 :: iCONST 0 :: zRET :: am_ju 232 167 := rfl
set_option maxRecDepth 100000 in
theorem ju_232_167 : am_ju 232 167 = aLD 1 1 :: aLD 0 1 :: iLD 3 1 :: iCONST 1 :: iADD :: iALD :: aLD 0 1 :: iLD 3 1 :: iCONST 2 :: iADD :: iALD :: CALL 52 3 2 36 508 :: aLD 2 1 :: aLD 0 1 :: iLD 3 1 :: iCONST 1 :: iADD :: iALD :: aLD 0 1 :: iLD 3 1 :: iCONST 2 :: iADD :: iALD :: CALL 54 3 2 39 1135 :: ICMP 0 891 :: iCONST 0 :: zRET :: am_ju 232 194 := rfl
set_option maxRecDepth 100000 in
theorem ju_232_194 : am_ju 232 194 = aLD 1 1 :: aLD 0 1 :: iLD 3 1 :: iCONST 1 :: iADD :: iALD :: aLD 0 1 :: iLD 3 1 :: iCONST 2 :: iADD :: iALD :: aLD 0 1 :: iLD 3 1 :: iCONST 3 :: iADD :: iALD :: CALL 57 4 2 40 527 :: aLD 2 1 :: aLD 0 1 :: iLD 3 1 :: iCONST 1 :: iADD :: iALD :: aLD 0 1 :: iLD 3 1 :: iCONST 2 :: iADD :: iALD :: aLD 0 1 :: iLD 3 1 :: iCONST 3 :: iADD :: iALD :: CALL 59 4 2 44 1142 :: ICMP 0 891 :: iCONST 0 :: zRET :: am_ju 232 231 := rfl
set_option maxRecDepth 100000 in
theorem ju_232_231 : am_ju 232 231 = aLD 1 1 :: aLD 0 1 :: iLD 3 1 :: iCONST 1 :: iADD :: iALD :: aLD 0 1 :: iLD 3 1 :: iCONST 2 :: iADD :: iALD :: CALL 60 3 2 45 541 :: aLD 2 1 :: aLD 0 1 :: iLD 3 1 :: iCONST 1 :: iADD :: iALD :: aLD 0 1 :: iLD 3 1 :: iCONST 2 :: iADD :: iALD :: CALL 61 3 2 48 1149 :: ICMP 0 891 :: iCONST 0 :: zRET :: am_ju 232 258 := rfl
set_option maxRecDepth 100000 in
theorem ju_232_258 : am_ju 232 258 = aLD 1 1 :: aLD 0 1 :: iLD 3 1 :: iCONST 1 :: iADD :: iALD :: aLD 0 1 :: iLD 3 1 :: iCONST 2 :: iADD :: iALD :: aLD 0 1 :: iLD 3 1 :: iCONST 3 :: iADD :: iALD :: CALL 62 4 2 49 545 :: aLD 2 1 :: aLD 0 1 :: iLD 3 1 :: iCONST 1 :: iADD :: iALD :: aLD 0 1 :: iLD 3 1 :: iCONST 2 :: iADD :: iALD :: aLD 0 1 :: iLD 3 1 :: iCONST 3 :: iADD :: iALD :: CALL 63 4 2 52 1153 :: ICMP 0 891 :: iCONST 0 :: zRET :: am_ju 232 295 := rfl
set_option maxRecDepth 100000 in
theorem ju_232_295 : am_ju 232 295 = aLD 1 1 :: aLD 0 1 :: iLD 3 1 :: iCONST 1 :: iADD :: iALD :: CALL 65 2 2 53 549 :: aLD 2 1 :: aLD 0 1 :: iLD 3 1 :: iCONST 1 :: iADD :: iALD :: CALL 66 2 2 56 1157 :: ICMP 0 891 :: iCONST 0 :: zRET :: am_ju 232 312 := rfl
set_option maxRecDepth 100000 in
theorem ju_232_312 : am_ju 232 312 = aLD 1 1 :: CALL 74 1 2 57 557 :: aLD 2 1 :: CALL 78 1 2 61 1161 :: ICMP 0 891 :: iCONST 0 :: zRET :: am_ju 232 319 := rfl
set_option maxRecDepth 100000 in
theorem ju_232_319 : am_ju 232 319 = aLD 1 1 :: CALL 89 1 2 62 593 :: aLD 2 1 :: CALL 99 1 2 65 1176 :: ICMP 0 891 :: iCONST 0 :: zRET :: am_ju 232 326 := rfl
set_option maxRecDepth 100000 in
theorem ju_232_326 : am_ju 232 326 = aLD 1 1 :: aLD 0 1 :: iLD 3 1 :: iCONST 1 :: iADD :: iALD :: CALL 101 2 2 66 641 :: aLD 2 1 :: aLD 0 1 :: iLD 3 1 :: iCONST 1 :: iADD :: iALD :: CALL 102 2 2 69 1214 :: ICMP 0 891 :: iCONST 0 :: zRET :: am_ju 232 343 := rfl
set_option maxRecDepth 100000 in
theorem ju_232_343 : am_ju 232 343 = aLD 1 1 :: aLD 0 1 :: iLD 3 1 :: iCONST 1 :: iADD :: iALD :: CALL 105 2 2 70 649 :: aLD 2 1 :: aLD 0 1 :: iLD 3 1 :: iCONST 1 :: iADD :: iALD :: CALL 108 2 2 73 1218 :: ICMP 0 891 :: iCONST 0 :: zRET :: am_ju 232 360 := rfl
set_option maxRecDepth 100000 in
theorem ju_232_360 : am_ju 232 360 = aLD 1 1 :: CALL 120 1 2 74 663 :: aLD 2 1 :: CALL 127 1 2 77 1230 :: ICMP 0 891 :: iCONST 0 :: zRET :: am_ju 232 367 := rfl
set_option maxRecDepth 100000 in
theorem ju_232_367 : am_ju 232 367 = aLD 1 1 :: CALL 129 1 2 78 726 :: aLD 2 1 :: CALL 130 1 2 81 1258 :: ICMP 0 891 :: iCONST 0 :: zRET :: am_ju 232 374 := rfl
set_option maxRecDepth 100000 in
theorem ju_232_374 : am_ju 232 374 = aLD 1 1 :: CALL 131 1 2 82 734 :: aLD 2 1 :: CALL 132 1 2 85 1262 :: ICMP 0 891 :: iCONST 0 :: zRET :: am_ju 232 381 := rfl
set_option maxRecDepth 100000 in
theorem ju_232_381 : am_ju 232 381 = aLD 1 1 :: aLD 0 1 :: iLD 3 1 :: iCONST 1 :: iADD :: iALD :: CALL 133 2 2 86 738 :: aLD 2 1 :: aLD 0 1 :: iLD 3 1 :: iCONST 1 :: iADD :: iALD :: CALL 134 2 2 89 1266 :: ICMP 0 891 :: iCONST 0 :: zRET :: am_ju 232 398 := rfl
set_option maxRecDepth 100000 in
theorem ju_232_398 : am_ju 232 398 = aLD 1 1 :: aLD 0 1 :: iLD 3 1 :: iCONST 1 :: iADD :: iALD :: CALL 138 2 2 90 742 :: aLD 2 1 :: aLD 0 1 :: iLD 3 1 :: iCONST 1 :: iADD :: iALD :: CALL 141 2 2 93 1270 :: ICMP 0 891 :: iCONST 0 :: zRET :: am_ju 232 415 := rfl
set_option maxRecDepth 100000 in
theorem ju_232_415 : am_ju 232 415 = aLD 1 1 :: aLD 0 1 :: iLD 3 1 :: iCONST 1 :: iADD :: iALD :: CALL 145 2 2 94 762 :: aLD 2 1 :: aLD 0 1 :: iLD 3 1 :: iCONST 1 :: iADD :: iALD :: CALL 147 2 2 97 1282 :: ICMP 0 891 :: iCONST 0 :: zRET :: am_ju 232 432 := rfl
set_option maxRecDepth 100000 in
theorem ju_232_432 : am_ju 232 432 = aLD 1 1 :: aLD 0 1 :: iLD 3 1 :: iCONST 1 :: iADD :: iALD :: CALL 157 2 2 98 782 :: aLD 2 1 :: aLD 0 1 :: iLD 3 1 :: iCONST 1 :: iADD :: iALD :: CALL 161 2 2 101 1290 :: ICMP 0 891 :: iCONST 0 :: zRET :: am_ju 232 449 := rfl
set_option maxRecDepth 100000 in
theorem ju_232_449 : am_ju 232 449 = aLD 1 1 :: CALL 163 1 2 102 828 :: aLD 2 1 :: CALL 164 1 2 105 1305 :: ICMP 0 891 :: iCONST 0 :: zRET :: am_ju 232 456 := rfl
set_option maxRecDepth 100000 in
theorem ju_232_456 : am_ju 232 456 = aLD 1 1 :: aLD 0 1 :: iLD 3 1 :: iCONST 1 :: iADD :: iALD :: CALL 168 2 2 106 837 :: aLD 2 1 :: aLD 0 1 :: iLD 3 1 :: iCONST 1 :: iADD :: iALD :: CALL 171 2 2 109 1309 :: ICMP 0 891 :: iCONST 0 :: zRET :: am_ju 232 473 := rfl
set_option maxRecDepth 100000 in
theorem ju_232_473 : am_ju 232 473 = aLD 1 1 :: aLD 0 1 :: iLD 3 1 :: iCONST 1 :: iADD :: iALD :: CALL 175 2 2 110 856 :: aLD 2 1 :: aLD 0 1 :: iLD 3 1 :: iCONST 1 :: iADD :: iALD :: CALL 178 2 2 113 1321 :: ICMP 0 891 :: iCONST 0 :: zRET :: am_ju 232 490 := rfl
set_option maxRecDepth 100000 in
theorem ju_232_490 : am_ju 232 490 = aLD 1 1 :: aLD 0 1 :: iLD 3 1 :: iCONST 1 :: iADD :: iALD :: CALL 186 2 2 114 874 :: aLD 2 1 :: aLD 0 1 :: iLD 3 1 :: iCONST 1 :: iADD :: iALD :: CALL 189 2 2 117 1333 :: ICMP 0 891 :: iCONST 0 :: zRET :: am_ju 232 507 := rfl
set_option maxRecDepth 100000 in
theorem ju_232_507 : am_ju 232 507 = aLD 1 1 :: aLD 0 1 :: iLD 3 1 :: iCONST 1 :: iADD :: iALD :: aLD 0 1 :: iLD 3 1 :: iCONST 2 :: iADD :: iALD :: aLD 0 1 :: iLD 3 1 :: iCONST 3 :: iADD :: iALD :: CALL 191 4 2 118 910 :: aLD 2 1 :: aLD 0 1 :: iLD 3 1 :: iCONST 1 :: iADD :: iALD :: aLD 0 1 :: iLD 3 1 :: iCONST 2 :: iADD :: iALD :: aLD 0 1 :: iLD 3 1 :: iCONST 3 :: iADD :: iALD :: CALL 193 4 2 121 1345 :: ICMP 0 891 :: iCONST 0 :: zRET :: am_ju 232 544 := rfl
set_option maxRecDepth 100000 in
theorem ju_232_544 : am_ju 232 544 = aLD 1 1 :: aLD 0 1 :: iLD 3 1 :: iCONST 1 :: iADD :: iALD :: aLD 0 1 :: iLD 3 1 :: iCONST 2 :: iADD :: iALD :: aLD 0 1 :: iLD 3 1 :: iCONST 3 :: iADD :: iALD :: CALL 196 4 2 122 919 :: aLD 2 1 :: aLD 0 1 :: iLD 3 1 :: iCONST 1 :: iADD :: iALD :: aLD 0 1 :: iLD 3 1 :: iCONST 2 :: iADD :: iALD :: aLD 0 1 :: iLD 3 1 :: iCONST 3 :: iADD :: iALD :: CALL 198 4 2 125 1353 :: ICMP 0 891 :: iCONST 0 :: zRET :: am_ju 232 581 := rfl
set_option maxRecDepth 100000 in
theorem ju_232_581 : am_ju 232 581 = aLD 1 1 :: CALL 201 1 2 126 932 :: aLD 2 1 :: CALL 202 1 2 129 1361 :: ICMP 0 891 :: iCONST 0 :: zRET :: am_ju 232 588 := rfl
set_option maxRecDepth 100000 in
theorem ju_232_588 : am_ju 232 588 = aLD 1 1 :: CALL 203 1 2 130 945 :: aLD 2 1 :: CALL 204 1 2 133 1365 :: ICMP 0 891 :: iCONST 0 :: zRET :: am_ju 232 595 := rfl
set_option maxRecDepth 100000 in
theorem ju_232_595 : am_ju 232 595 = aLD 1 1 :: aLD 0 1 :: iLD 3 1 :: iCONST 1 :: iADD :: iALD :: aLD 0 1 :: iLD 3 1 :: iCONST 2 :: iADD :: iALD :: aLD 0 1 :: iLD 3 1 :: iCONST 3 :: iADD :: iALD :: aLD 0 1 :: iLD 3 1 :: iCONST 4 :: iADD :: iALD :: aLD 0 1 :: iLD 3 1 :: iCONST 5 :: iADD :: iALD :: aLD 0 1 :: iLD 3 1 :: bPUSH 6 :: iADD :: iALD :: CALL 210 7 2 134 949 :: aLD 2 1 :: aLD 0 1 :: iLD 3 1 :: iCONST 1 :: iADD :: iALD :: aLD 0 1 :: iLD 3 1 :: iCONST 2 :: iADD :: iALD :: aLD 0 1 :: iLD 3 1 :: iCONST 3 :: iADD :: iALD :: aLD 0 1 :: iLD 3 1 :: iCONST 4 :: iADD :: iALD :: aLD 0 1 :: iLD 3 1 :: iCONST 5 :: iADD :: iALD :: aLD 0 1 :: iLD 3 1 :: bPUSH 6 :: iADD :: iALD :: CALL 215 7 2 138 1369 :: ICMP 0 891 :: iCONST 0 :: zRET :: am_ju 232 662 := rfl
set_option maxRecDepth 100000 in
theorem ju_232_662 : am_ju 232 662 = aLD 1 1 :: aLD 0 1 :: iLD 3 1 :: iCONST 1 :: iADD :: iALD :: aLD 0 1 :: iLD 3 1 :: iCONST 2 :: iADD :: iALD :: aLD 0 1 :: iLD 3 1 :: iCONST 3 :: iADD :: iALD :: aLD 0 1 :: iLD 3 1 :: iCONST 4 :: iADD :: iALD :: CALL 219 5 2 139 974 :: aLD 2 1 :: aLD 0 1 :: iLD 3 1 :: iCONST 1 :: iADD :: iALD :: aLD 0 1 :: iLD 3 1 :: iCONST 2 :: iADD :: iALD :: aLD 0 1 :: iLD 3 1 :: iCONST 3 :: iADD :: iALD :: aLD 0 1 :: iLD 3 1 :: iCONST 4 :: iADD :: iALD :: CALL 221 5 2 143 1387 :: ICMP 0 891 :: iCONST 0 :: zRET :: am_ju 232 709 := rfl
set_option maxRecDepth 100000 in
theorem ju_232_709 : am_ju 232 709 = aLD 1 1 :: aLD 0 1 :: iLD 3 1 :: iCONST 1 :: iADD :: iALD :: aLD 0 1 :: iLD 3 1 :: iCONST 2 :: iADD :: iALD :: aLD 0 1 :: iLD 3 1 :: iCONST 3 :: iADD :: iALD :: CALL 224 4 2 144 990 :: aLD 2 1 :: aLD 0 1 :: iLD 3 1 :: iCONST 1 :: iADD :: iALD :: aLD 0 1 :: iLD 3 1 :: iCONST 2 :: iADD :: iALD :: aLD 0 1 :: iLD 3 1 :: iCONST 3 :: iADD :: iALD :: CALL 225 4 2 147 1394 :: ICMP 0 891 :: iCONST 0 :: zRET :: am_ju 232 746 := rfl
set_option maxRecDepth 100000 in
theorem ju_232_746 : am_ju 232 746 = aLD 1 1 :: aLD 0 1 :: iLD 3 1 :: iCONST 1 :: iADD :: iALD :: CALL 226 2 2 148 1002 :: aLD 2 1 :: aLD 0 1 :: iLD 3 1 :: iCONST 1 :: iADD :: iALD :: CALL 227 2 2 151 1398 :: ICMP 0 891 :: iCONST 0 :: zRET :: am_ju 232 763 := rfl
set_option maxRecDepth 100000 in
theorem ju_232_763 : am_ju 232 763 = aLD 1 1 :: aLD 0 1 :: iLD 3 1 :: iCONST 1 :: iADD :: iALD :: aLD 0 1 :: iLD 3 1 :: iCONST 2 :: iADD :: iALD :: aLD 0 1 :: iLD 3 1 :: iCONST 3 :: iADD :: iALD :: aLD 0 1 :: iLD 3 1 :: iCONST 4 :: iADD :: iALD :: ITL :: bPUSH 32 :: lSHL :: aLD 0 1 :: iLD 3 1 :: iCONST 5 :: iADD :: iALD :: ITL :: LDC2 4294967295 152 1410 :: lAND :: lOR :: CALL 228 5 2 154 1006 :: aLD 2 1 :: aLD 0 1 :: iLD 3 1 :: iCONST 1 :: iADD :: iALD :: aLD 0 1 :: iLD 3 1 :: iCONST 2 :: iADD :: iALD :: aLD 0 1 :: iLD 3 1 :: iCONST 3 :: iADD :: iALD :: aLD 0 1 :: iLD 3 1 :: iCONST 4 :: iADD :: iALD :: ITL :: bPUSH 32 :: lSHL :: aLD 0 1 :: iLD 3 1 :: iCONST 5 :: iADD :: iALD :: ITL :: LDC2 4294967295 152 1410 :: lAND :: lOR :: CALL 229 5 2 158 1402 :: ICMP 0 891 :: iCONST 0 :: zRET :: am_ju 232 834 := rfl
set_option maxRecDepth 100000 in
theorem ju_232_834 : am_ju 232 834 = aLD 1 1 :: aLD 0 1 :: iLD 3 1 :: iCONST 1 :: iADD :: iALD :: aLD 0 1 :: iLD 3 1 :: iCONST 2 :: iADD :: iALD :: aLD 0 1 :: iLD 3 1 :: iCONST 3 :: iADD :: iALD :: aLD 0 1 :: iLD 3 1 :: iCONST 4 :: iADD :: iALD :: aLD 0 1 :: iLD 3 1 :: iCONST 5 :: iADD :: iALD :: CALL 230 6 2 159 1010 :: aLD 2 1 :: aLD 0 1 :: iLD 3 1 :: iCONST 1 :: iADD :: iALD :: aLD 0 1 :: iLD 3 1 :: iCONST 2 :: iADD :: iALD :: aLD 0 1 :: iLD 3 1 :: iCONST 3 :: iADD :: iALD :: aLD 0 1 :: iLD 3 1 :: iCONST 4 :: iADD :: iALD :: aLD 0 1 :: iLD 3 1 :: iCONST 5 :: iADD :: iALD :: CALL 231 6 2 162 1406 :: ICMP 0 891 :: iCONST 0 :: zRET :: am_ju 232 891 := rfl
set_option maxRecDepth 100000 in
theorem ju_232_891 : am_ju 232 891 = IINC 3 7 :: GOTO 10 :: am_ju 232 893 := rfl
set_option maxRecDepth 100000 in
theorem ju_232_893 : am_ju 232 893 = iCONST 1 :: zRET :: [] := rfl
end
section
section CLS
variable {m : Nat} {is : List am_I} {L S : List am_V} {h : am_F} {Q : am_V → am_S → Prop} {x y z : Int}
theorem cl_0 {v0 : Int} (hk : kd v0 = 2) (h8 : am_w8 S = true) : wp m (CALL 0 1 x y z :: is) L (aP v0 :: S) (sT h) Q ↔ wp 0 (am_ju 0 0) [aP v0] [] (sT h) (fun r s' => wp m is L (am_pu r S) s' Q) := r_CALL (m' := 0) (As := [aP v0]) rfl rfl rfl h8 (by show (true && (false || (true && am_is (sT h) v0 2))) = true; rw [show am_is (sT h) v0 2 = true from kd_is hk (by decide) h]; rfl)
theorem cl_1 {v0 : Int} (hk : kd v0 = 8) (h8 : am_w8 S = true) : wp m (CALL 1 1 x y z :: is) L (aP v0 :: S) (sT h) Q ↔ wp 1 (am_ju 1 0) [aP v0] [] (sT h) (fun r s' => wp m is L (am_pu r S) s' Q) := r_CALL (m' := 1) (As := [aP v0]) rfl rfl rfl h8 (by show (true && (false || (true && am_is (sT h) v0 8))) = true; rw [show am_is (sT h) v0 8 = true from kd_is hk (by decide) h]; rfl)
theorem cl_2 {v0 : Int} (hk : kd v0 = 3) (h8 : am_w8 S = true) : wp m (CALL 2 1 x y z :: is) L (aP v0 :: S) (sT h) Q ↔ wp 2 (am_ju 2 0) [aP v0] [] (sT h) (fun r s' => wp m is L (am_pu r S) s' Q) := r_CALL (m' := 2) (As := [aP v0]) rfl rfl rfl h8 (by show (true && (false || (true && am_is (sT h) v0 3))) = true; rw [show am_is (sT h) v0 3 = true from kd_is hk (by decide) h]; rfl)
theorem cl_3 {v0 : Int} (hk : kd v0 = 5) (h8 : am_w8 S = true) : wp m (CALL 3 1 x y z :: is) L (aP v0 :: S) (sT h) Q ↔ wp 3 (am_ju 3 0) [aP v0, aX] [] (sT h) (fun r s' => wp m is L (am_pu r S) s' Q) := r_CALL (m' := 3) (As := [aP v0]) rfl rfl rfl h8 (by show (true && (false || (true && am_is (sT h) v0 5))) = true; rw [show am_is (sT h) v0 5 = true from kd_is hk (by decide) h]; rfl)
theorem cl_4 {v0 : Int} (hk : kd v0 = 9) (h8 : am_w8 S = true) : wp m (CALL 4 1 x y z :: is) L (aP v0 :: S) (sT h) Q ↔ wp 4 (am_ju 4 0) [aP v0] [] (sT h) (fun r s' => wp m is L (am_pu r S) s' Q) := r_CALL (m' := 4) (As := [aP v0]) rfl rfl rfl h8 (by show (true && (false || (true && am_is (sT h) v0 9))) = true; rw [show am_is (sT h) v0 9 = true from kd_is hk (by decide) h]; rfl)
theorem cl_5 {v0 : Int} (hk : kd v0 = 0) (h8 : am_w8 S = true) : wp m (CALL 5 1 x y z :: is) L (aP v0 :: S) (sT h) Q ↔ wp 5 (am_ju 5 0) [aP v0] [] (sT h) (fun r s' => wp m is L (am_pu r S) s' Q) := r_CALL (m' := 5) (As := [aP v0]) rfl rfl rfl h8 (by show (true && (false || (true && am_is (sT h) v0 0))) = true; rw [show am_is (sT h) v0 0 = true from kd_is hk (by decide) h]; rfl)
theorem cl_6 {v0 : Int} (hk : kd v0 = 7) (h8 : am_w8 S = true) : wp m (CALL 6 1 x y z :: is) L (aP v0 :: S) (sT h) Q ↔ wp 6 (am_ju 6 0) [aP v0] [] (sT h) (fun r s' => wp m is L (am_pu r S) s' Q) := r_CALL (m' := 6) (As := [aP v0]) rfl rfl rfl h8 (by show (true && (false || (true && am_is (sT h) v0 7))) = true; rw [show am_is (sT h) v0 7 = true from kd_is hk (by decide) h]; rfl)
theorem cl_7 {v0 : Int} (hk : kd v0 = 6) (h8 : am_w8 S = true) : wp m (CALL 7 1 x y z :: is) L (aP v0 :: S) (sT h) Q ↔ wp 7 (am_ju 7 0) [aP v0] [] (sT h) (fun r s' => wp m is L (am_pu r S) s' Q) := r_CALL (m' := 7) (As := [aP v0]) rfl rfl rfl h8 (by show (true && (false || (true && am_is (sT h) v0 6))) = true; rw [show am_is (sT h) v0 6 = true from kd_is hk (by decide) h]; rfl)
theorem cl_8 {v0 v1 : Int} (hk : kd v0 = 4) (h8 : am_w8 S = true) : wp m (CALL 8 2 x y z :: is) L (aP v1 :: aP v0 :: S) (sT h) Q ↔ wp 8 (am_ju 8 0) [aP v0, aP v1] [] (sT h) (fun r s' => wp m is L (am_pu r S) s' Q) := r_CALL (m' := 8) (As := [aP v0, aP v1]) rfl rfl rfl h8 (by show (true && (false || (true && am_is (sT h) v0 4))) = true; rw [show am_is (sT h) v0 4 = true from kd_is hk (by decide) h]; rfl)
theorem cl_9 {v0 v1 : Int} (hk : kd v0 = 1) (h8 : am_w8 S = true) : wp m (CALL 9 2 x y z :: is) L (aP v1 :: aP v0 :: S) (sT h) Q ↔ wp 9 (am_ju 9 0) [aP v0, aP v1] [] (sT h) (fun r s' => wp m is L (am_pu r S) s' Q) := r_CALL (m' := 9) (As := [aP v0, aP v1]) rfl rfl rfl h8 (by show (true && (false || (true && am_is (sT h) v0 1))) = true; rw [show am_is (sT h) v0 1 = true from kd_is hk (by decide) h]; rfl)
theorem cl_10 {v0 : Int} (hk : kd v0 = 10) (h8 : am_w8 S = true) : wp m (CALL 10 1 x y z :: is) L (aP v0 :: S) (sT h) Q ↔ wp 10 (am_ju 10 0) [aP v0, aX] [] (sT h) (fun r s' => wp m is L (am_pu r S) s' Q) := r_CALL (m' := 10) (As := [aP v0]) rfl rfl rfl h8 (by show (true && (false || (true && am_is (sT h) v0 10))) = true; rw [show am_is (sT h) v0 10 = true from kd_is hk (by decide) h]; rfl)
theorem cl_11 {v0 : Int} (hk : kd v0 = 11) (h8 : am_w8 S = true) : wp m (CALL 11 1 x y z :: is) L (aP v0 :: S) (sT h) Q ↔ wp 11 (am_ju 11 0) [aP v0, aX] [] (sT h) (fun r s' => wp m is L (am_pu r S) s' Q) := r_CALL (m' := 11) (As := [aP v0]) rfl rfl rfl h8 (by show (true && (false || (true && am_is (sT h) v0 11))) = true; rw [show am_is (sT h) v0 11 = true from kd_is hk (by decide) h]; rfl)
theorem cl_12 {v0 v1 : Int} (h8 : am_w8 S = true) : wp m (CALL 12 2 x y z :: is) L (aI v1 :: aI v0 :: S) (sT h) Q ↔ wp 12 (am_ju 12 0) [aI v0, aI v1] [] (sT h) (fun r s' => wp m is L (am_pu r S) s' Q) := r_CALL (m' := 12) (As := [aI v0, aI v1]) rfl rfl rfl h8 rfl
theorem cl_13 {v0 v1 : Int} (hk : kd v0 = 3) (h8 : am_w8 S = true) : wp m (CALL 13 2 x y z :: is) L (aI v1 :: aP v0 :: S) (sT h) Q ↔ wp 13 (am_ju 13 0) [aP v0, aI v1] [] (sT h) (fun r s' => wp m is L (am_pu r S) s' Q) := r_CALL (m' := 13) (As := [aP v0, aI v1]) rfl rfl rfl h8 (by show (true && (false || (true && am_is (sT h) v0 3))) = true; rw [show am_is (sT h) v0 3 = true from kd_is hk (by decide) h]; rfl)
theorem cl_14 {v0 v1 : Int} (hk : kd v0 = 2) (h8 : am_w8 S = true) : wp m (CALL 14 2 x y z :: is) L (aI v1 :: aP v0 :: S) (sT h) Q ↔ wp 14 (am_ju 14 0) [aP v0, aI v1] [] (sT h) (fun r s' => wp m is L (am_pu r S) s' Q) := r_CALL (m' := 14) (As := [aP v0, aI v1]) rfl rfl rfl h8 (by show (true && (false || (true && am_is (sT h) v0 2))) = true; rw [show am_is (sT h) v0 2 = true from kd_is hk (by decide) h]; rfl)
theorem cl_15 {v0 v1 : Int} (hk : kd v0 = 9) (h8 : am_w8 S = true) : wp m (CALL 15 2 x y z :: is) L (aI v1 :: aP v0 :: S) (sT h) Q ↔ wp 15 (am_ju 15 0) [aP v0, aI v1] [] (sT h) (fun r s' => wp m is L (am_pu r S) s' Q) := r_CALL (m' := 15) (As := [aP v0, aI v1]) rfl rfl rfl h8 (by show (true && (false || (true && am_is (sT h) v0 9))) = true; rw [show am_is (sT h) v0 9 = true from kd_is hk (by decide) h]; rfl)
theorem cl_16 {v0 v1 : Int} (hk : kd v0 = 10) (h8 : am_w8 S = true) : wp m (CALL 16 2 x y z :: is) L (aI v1 :: aP v0 :: S) (sT h) Q ↔ wp 16 (am_ju 16 0) [aP v0, aI v1] [] (sT h) (fun r s' => wp m is L (am_pu r S) s' Q) := r_CALL (m' := 16) (As := [aP v0, aI v1]) rfl rfl rfl h8 (by show (true && (false || (true && am_is (sT h) v0 10))) = true; rw [show am_is (sT h) v0 10 = true from kd_is hk (by decide) h]; rfl)
theorem cl_17 {v0 v1 v2 : Int} (h8 : am_w8 S = true) : wp m (CALL 17 3 x y z :: is) L (aI v2 :: aI v1 :: aI v0 :: S) (sT h) Q ↔ wp 17 (am_ju 17 0) [aI v0, aI v1, aI v2] [] (sT h) (fun r s' => wp m is L (am_pu r S) s' Q) := r_CALL (m' := 17) (As := [aI v0, aI v1, aI v2]) rfl rfl rfl h8 rfl
theorem cl_18 {v0 : Int} (h8 : am_w8 S = true) : wp m (CALL 18 1 x y z :: is) L (aI v0 :: S) (sT h) Q ↔ wp 18 (am_ju 18 0) [aI v0] [] (sT h) (fun r s' => wp m is L (am_pu r S) s' Q) := r_CALL (m' := 18) (As := [aI v0]) rfl rfl rfl h8 rfl
theorem cl_19 {v0 v1 : Int} (h8 : am_w8 S = true) : wp m (CALL 19 2 x y z :: is) L (aI v1 :: aP v0 :: S) (sT h) Q ↔ wp 19 (am_ju 19 0) [aP v0, aI v1, aX] [] (sT h) (fun r s' => wp m is L (am_pu r S) s' Q) := r_CALL (m' := 19) (As := [aP v0, aI v1]) rfl rfl rfl h8 rfl
theorem cl_20 {v0 v1 : Int} (hk : kd v0 = 11) (h8 : am_w8 S = true) : wp m (CALL 20 2 x y z :: is) L (aI v1 :: aP v0 :: S) (sT h) Q ↔ wp 20 (am_ju 20 0) [aP v0, aI v1] [] (sT h) (fun r s' => wp m is L (am_pu r S) s' Q) := r_CALL (m' := 20) (As := [aP v0, aI v1]) rfl rfl rfl h8 (by show (true && (false || (true && am_is (sT h) v0 11))) = true; rw [show am_is (sT h) v0 11 = true from kd_is hk (by decide) h]; rfl)
theorem cl_21 {v0 v1 v2 : Int} (hk : kd v0 = 3) (h8 : am_w8 S = true) : wp m (CALL 21 3 x y z :: is) L (aI v2 :: aI v1 :: aP v0 :: S) (sT h) Q ↔ wp 21 (am_ju 21 0) [aP v0, aI v1, aI v2, aX] [] (sT h) (fun r s' => wp m is L (am_pu r S) s' Q) := r_CALL (m' := 21) (As := [aP v0, aI v1, aI v2]) rfl rfl rfl h8 (by show (true && (false || (true && am_is (sT h) v0 3))) = true; rw [show am_is (sT h) v0 3 = true from kd_is hk (by decide) h]; rfl)
theorem cl_22 {v0 v1 v2 v3 v4 v5 : Int} (hk : kd v0 = 2) (h8 : am_w8 S = true) : wp m (CALL 22 6 x y z :: is) L (aI v5 :: aI v4 :: aI v3 :: aI v2 :: aI v1 :: aP v0 :: S) (sT h) Q ↔ wp 22 (am_ju 22 0) [aP v0, aI v1, aI v2, aI v3, aI v4, aI v5] [] (sT h) (fun r s' => wp m is L (am_pu r S) s' Q) := r_CALL (m' := 22) (As := [aP v0, aI v1, aI v2, aI v3, aI v4, aI v5]) rfl rfl rfl h8 (by show (true && (false || (true && am_is (sT h) v0 2))) = true; rw [show am_is (sT h) v0 2 = true from kd_is hk (by decide) h]; rfl)
theorem cl_23 {v0 v1 v2 v3 v4 v5 : Int} (hk : kd v0 = 9) (h8 : am_w8 S = true) : wp m (CALL 23 6 x y z :: is) L (aI v5 :: aI v4 :: aI v3 :: aI v2 :: aI v1 :: aP v0 :: S) (sT h) Q ↔ wp 23 (am_ju 23 0) [aP v0, aI v1, aI v2, aI v3, aI v4, aI v5] [] (sT h) (fun r s' => wp m is L (am_pu r S) s' Q) := r_CALL (m' := 23) (As := [aP v0, aI v1, aI v2, aI v3, aI v4, aI v5]) rfl rfl rfl h8 (by show (true && (false || (true && am_is (sT h) v0 9))) = true; rw [show am_is (sT h) v0 9 = true from kd_is hk (by decide) h]; rfl)
theorem cl_24 {v0 v1 v2 v3 v4 v5 : Int} (hk : kd v0 = 10) (h8 : am_w8 S = true) : wp m (CALL 24 6 x y z :: is) L (aI v5 :: aI v4 :: aI v3 :: aI v2 :: aI v1 :: aP v0 :: S) (sT h) Q ↔ wp 24 (am_ju 24 0) [aP v0, aI v1, aI v2, aI v3, aI v4, aI v5] [] (sT h) (fun r s' => wp m is L (am_pu r S) s' Q) := r_CALL (m' := 24) (As := [aP v0, aI v1, aI v2, aI v3, aI v4, aI v5]) rfl rfl rfl h8 (by show (true && (false || (true && am_is (sT h) v0 10))) = true; rw [show am_is (sT h) v0 10 = true from kd_is hk (by decide) h]; rfl)
theorem cl_25 {v0 : Int} (h8 : am_w8 S = true) : wp m (CALL 25 1 x y z :: is) L (aI v0 :: S) (sT h) Q ↔ wp 25 (am_ju 25 0) [aI v0] [] (sT h) (fun r s' => wp m is L (am_pu r S) s' Q) := r_CALL (m' := 25) (As := [aI v0]) rfl rfl rfl h8 rfl
theorem cl_26 {v0 v1 v2 v3 v4 v5 : Int} (hk : kd v0 = 11) (h8 : am_w8 S = true) : wp m (CALL 26 6 x y z :: is) L (aI v5 :: aI v4 :: aI v3 :: aI v2 :: aI v1 :: aP v0 :: S) (sT h) Q ↔ wp 26 (am_ju 26 0) [aP v0, aI v1, aI v2, aI v3, aI v4, aI v5, aX] [] (sT h) (fun r s' => wp m is L (am_pu r S) s' Q) := r_CALL (m' := 26) (As := [aP v0, aI v1, aI v2, aI v3, aI v4, aI v5]) rfl rfl rfl h8 (by show (true && (false || (true && am_is (sT h) v0 11))) = true; rw [show am_is (sT h) v0 11 = true from kd_is hk (by decide) h]; rfl)
theorem cl_27 {v0 v1 : Int} (hk : kd v0 = 2) (h8 : am_w8 S = true) : wp m (CALL 27 2 x y z :: is) L (aI v1 :: aP v0 :: S) (sT h) Q ↔ wp 27 (am_ju 27 0) [aP v0, aI v1] [] (sT h) (fun r s' => wp m is L (am_pu r S) s' Q) := r_CALL (m' := 27) (As := [aP v0, aI v1]) rfl rfl rfl h8 (by show (true && (false || (true && am_is (sT h) v0 2))) = true; rw [show am_is (sT h) v0 2 = true from kd_is hk (by decide) h]; rfl)
theorem cl_28 {v0 v1 : Int} (hk : kd v0 = 2) (h8 : am_w8 S = true) : wp m (CALL 28 2 x y z :: is) L (aI v1 :: aP v0 :: S) (sT h) Q ↔ wp 28 (am_ju 28 0) [aP v0, aI v1] [] (sT h) (fun r s' => wp m is L (am_pu r S) s' Q) := r_CALL (m' := 28) (As := [aP v0, aI v1]) rfl rfl rfl h8 (by show (true && (false || (true && am_is (sT h) v0 2))) = true; rw [show am_is (sT h) v0 2 = true from kd_is hk (by decide) h]; rfl)
theorem cl_29 {v0 v1 : Int} (h8 : am_w8 S = true) : wp m (CALL 29 2 x y z :: is) L (aI v1 :: aI v0 :: S) (sT h) Q ↔ wp 29 (am_ju 29 0) [aI v0, aI v1] [] (sT h) (fun r s' => wp m is L (am_pu r S) s' Q) := r_CALL (m' := 29) (As := [aI v0, aI v1]) rfl rfl rfl h8 rfl
theorem cl_30 {v0 : Int} (h8 : am_w8 S = true) : wp m (CALL 30 1 x y z :: is) L (aI v0 :: S) (sT h) Q ↔ wp 30 (am_ju 30 0) [aI v0] [] (sT h) (fun r s' => wp m is L (am_pu r S) s' Q) := r_CALL (m' := 30) (As := [aI v0]) rfl rfl rfl h8 rfl
theorem cl_31 {v0 v1 v2 : Int} (hk : kd v0 = 10) (h8 : am_w8 S = true) : wp m (CALL 31 3 x y z :: is) L (aI v2 :: aI v1 :: aP v0 :: S) (sT h) Q ↔ wp 31 (am_ju 31 0) [aP v0, aI v1, aI v2] [] (sT h) (fun r s' => wp m is L (am_pu r S) s' Q) := r_CALL (m' := 31) (As := [aP v0, aI v1, aI v2]) rfl rfl rfl h8 (by show (true && (false || (true && am_is (sT h) v0 10))) = true; rw [show am_is (sT h) v0 10 = true from kd_is hk (by decide) h]; rfl)
theorem cl_32 {v0 v1 : Int} (hk : kd v0 = 11) (h8 : am_w8 S = true) : wp m (CALL 32 2 x y z :: is) L (aI v1 :: aP v0 :: S) (sT h) Q ↔ wp 32 (am_ju 32 0) [aP v0, aI v1] [] (sT h) (fun r s' => wp m is L (am_pu r S) s' Q) := r_CALL (m' := 32) (As := [aP v0, aI v1]) rfl rfl rfl h8 (by show (true && (false || (true && am_is (sT h) v0 11))) = true; rw [show am_is (sT h) v0 11 = true from kd_is hk (by decide) h]; rfl)
theorem cl_33 {v0 v1 : Int} (hk : kd v0 = 11) (h8 : am_w8 S = true) : wp m (CALL 33 2 x y z :: is) L (aI v1 :: aP v0 :: S) (sT h) Q ↔ wp 33 (am_ju 33 0) [aP v0, aI v1] [] (sT h) (fun r s' => wp m is L (am_pu r S) s' Q) := r_CALL (m' := 33) (As := [aP v0, aI v1]) rfl rfl rfl h8 (by show (true && (false || (true && am_is (sT h) v0 11))) = true; rw [show am_is (sT h) v0 11 = true from kd_is hk (by decide) h]; rfl)
theorem cl_34 {v0 v1 : Int} (h8 : am_w8 S = true) : wp m (CALL 34 2 x y z :: is) L (aI v1 :: aI v0 :: S) (sT h) Q ↔ wp 34 (am_ju 34 0) [aI v0, aI v1] [] (sT h) (fun r s' => wp m is L (am_pu r S) s' Q) := r_CALL (m' := 34) (As := [aI v0, aI v1]) rfl rfl rfl h8 rfl
theorem cl_35 {v0 v1 : Int} (hk : kd v0 = 11) (h8 : am_w8 S = true) : wp m (CALL 35 2 x y z :: is) L (aI v1 :: aP v0 :: S) (sT h) Q ↔ wp 35 (am_ju 35 0) [aP v0, aI v1, aX] [] (sT h) (fun r s' => wp m is L (am_pu r S) s' Q) := r_CALL (m' := 35) (As := [aP v0, aI v1]) rfl rfl rfl h8 (by show (true && (false || (true && am_is (sT h) v0 11))) = true; rw [show am_is (sT h) v0 11 = true from kd_is hk (by decide) h]; rfl)
theorem cl_36 {v0 v1 v2 : Int} (hk : kd v0 = 11) (h8 : am_w8 S = true) : wp m (CALL 36 3 x y z :: is) L (aI v2 :: aI v1 :: aP v0 :: S) (sT h) Q ↔ wp 36 (am_ju 36 0) [aP v0, aI v1, aI v2, aX] [] (sT h) (fun r s' => wp m is L (am_pu r S) s' Q) := r_CALL (m' := 36) (As := [aP v0, aI v1, aI v2]) rfl rfl rfl h8 (by show (true && (false || (true && am_is (sT h) v0 11))) = true; rw [show am_is (sT h) v0 11 = true from kd_is hk (by decide) h]; rfl)
theorem cl_37 {v0 v1 : Int} (hk : kd v0 = 10) (h8 : am_w8 S = true) : wp m (CALL 37 2 x y z :: is) L (aI v1 :: aP v0 :: S) (sT h) Q ↔ wp 37 (am_ju 37 0) [aP v0, aI v1] [] (sT h) (fun r s' => wp m is L (am_pu r S) s' Q) := r_CALL (m' := 37) (As := [aP v0, aI v1]) rfl rfl rfl h8 (by show (true && (false || (true && am_is (sT h) v0 10))) = true; rw [show am_is (sT h) v0 10 = true from kd_is hk (by decide) h]; rfl)
theorem cl_38 {v0 v1 : Int} (hk : kd v0 = 11) (h8 : am_w8 S = true) : wp m (CALL 38 2 x y z :: is) L (aI v1 :: aP v0 :: S) (sT h) Q ↔ wp 38 (am_ju 38 0) [aP v0, aI v1, aX] [] (sT h) (fun r s' => wp m is L (am_pu r S) s' Q) := r_CALL (m' := 38) (As := [aP v0, aI v1]) rfl rfl rfl h8 (by show (true && (false || (true && am_is (sT h) v0 11))) = true; rw [show am_is (sT h) v0 11 = true from kd_is hk (by decide) h]; rfl)
theorem cl_39 {v0 v1 : Int} (hk : kd v0 = 9) (h8 : am_w8 S = true) : wp m (CALL 39 2 x y z :: is) L (aI v1 :: aP v0 :: S) (sT h) Q ↔ wp 39 (am_ju 39 0) [aP v0, aI v1, aX, aX] [] (sT h) (fun r s' => wp m is L (am_pu r S) s' Q) := r_CALL (m' := 39) (As := [aP v0, aI v1]) rfl rfl rfl h8 (by show (true && (false || (true && am_is (sT h) v0 9))) = true; rw [show am_is (sT h) v0 9 = true from kd_is hk (by decide) h]; rfl)
theorem cl_40 {v0 v1 : Int} (h8 : am_w8 S = true) : wp m (CALL 40 2 x y z :: is) L (aI v1 :: aP v0 :: S) (sT h) Q ↔ wp 40 (am_ju 40 0) [aP v0, aI v1, aX, aX] [] (sT h) (fun r s' => wp m is L (am_pu r S) s' Q) := r_CALL (m' := 40) (As := [aP v0, aI v1]) rfl rfl rfl h8 rfl
theorem cl_41 {v0 v1 v2 : Int} (hk : kd v0 = 0) (h8 : am_w8 S = true) : wp m (CALL 41 3 x y z :: is) L (aI v2 :: aP v1 :: aP v0 :: S) (sT h) Q ↔ wp 41 (am_ju 41 0) [aP v0, aP v1, aI v2] [] (sT h) (fun r s' => wp m is L (am_pu r S) s' Q) := r_CALL (m' := 41) (As := [aP v0, aP v1, aI v2]) rfl rfl rfl h8 (by show (true && (false || (true && am_is (sT h) v0 0))) = true; rw [show am_is (sT h) v0 0 = true from kd_is hk (by decide) h]; rfl)
theorem cl_42 {v0 v1 v2 v3 : Int} (hk : kd v0 = 9) (h8 : am_w8 S = true) : wp m (CALL 42 4 x y z :: is) L (aI v3 :: aI v2 :: aP v1 :: aP v0 :: S) (sT h) Q ↔ wp 42 (am_ju 42 0) [aP v0, aP v1, aI v2, aI v3] [] (sT h) (fun r s' => wp m is L (am_pu r S) s' Q) := r_CALL (m' := 42) (As := [aP v0, aP v1, aI v2, aI v3]) rfl rfl rfl h8 (by show (true && (false || (true && am_is (sT h) v0 9))) = true; rw [show am_is (sT h) v0 9 = true from kd_is hk (by decide) h]; rfl)
theorem cl_43 {v0 : Int} (hk : kd v0 = 0) (h8 : am_w8 S = true) : wp m (CALL 43 1 x y z :: is) L (aP v0 :: S) (sT h) Q ↔ wp 43 (am_ju 43 0) [aP v0] [] (sT h) (fun r s' => wp m is L (am_pu r S) s' Q) := r_CALL (m' := 43) (As := [aP v0]) rfl rfl rfl h8 (by show (true && (false || (true && am_is (sT h) v0 0))) = true; rw [show am_is (sT h) v0 0 = true from kd_is hk (by decide) h]; rfl)
theorem cl_44 {v0 v1 v2 : Int} (hk : kd v0 = 10) (h8 : am_w8 S = true) : wp m (CALL 44 3 x y z :: is) L (aI v2 :: aI v1 :: aP v0 :: S) (sT h) Q ↔ wp 44 (am_ju 44 0) [aP v0, aI v1, aI v2] [] (sT h) (fun r s' => wp m is L (am_pu r S) s' Q) := r_CALL (m' := 44) (As := [aP v0, aI v1, aI v2]) rfl rfl rfl h8 (by show (true && (false || (true && am_is (sT h) v0 10))) = true; rw [show am_is (sT h) v0 10 = true from kd_is hk (by decide) h]; rfl)
theorem cl_45 {v0 v1 : Int} (h8 : am_w8 S = true) : wp m (CALL 45 2 x y z :: is) L (aI v1 :: aP v0 :: S) (sT h) Q ↔ wp 45 (am_ju 45 0) [aP v0, aI v1, aX, aX] [] (sT h) (fun r s' => wp m is L (am_pu r S) s' Q) := r_CALL (m' := 45) (As := [aP v0, aI v1]) rfl rfl rfl h8 rfl
theorem cl_46 {v0 v1 v2 : Int} (h8 : am_w8 S = true) : wp m (CALL 46 3 x y z :: is) L (aI v2 :: aI v1 :: aP v0 :: S) (sT h) Q ↔ wp 46 (am_ju 46 0) [aP v0, aI v1, aI v2, aX, aX] [] (sT h) (fun r s' => wp m is L (am_pu r S) s' Q) := r_CALL (m' := 46) (As := [aP v0, aI v1, aI v2]) rfl rfl rfl h8 rfl
theorem cl_47 {v0 v1 : Int} (h8 : am_w8 S = true) : wp m (CALL 47 2 x y z :: is) L (aI v1 :: aP v0 :: S) (sT h) Q ↔ wp 47 (am_ju 47 0) [aP v0, aI v1] [] (sT h) (fun r s' => wp m is L (am_pu r S) s' Q) := r_CALL (m' := 47) (As := [aP v0, aI v1]) rfl rfl rfl h8 rfl
theorem cl_48 {v0 v1 v2 : Int} (hk : kd v0 = 11) (h8 : am_w8 S = true) : wp m (CALL 48 3 x y z :: is) L (aI v2 :: aI v1 :: aP v0 :: S) (sT h) Q ↔ wp 48 (am_ju 48 0) [aP v0, aI v1, aI v2] [] (sT h) (fun r s' => wp m is L (am_pu r S) s' Q) := r_CALL (m' := 48) (As := [aP v0, aI v1, aI v2]) rfl rfl rfl h8 (by show (true && (false || (true && am_is (sT h) v0 11))) = true; rw [show am_is (sT h) v0 11 = true from kd_is hk (by decide) h]; rfl)
theorem cl_49 {v0 v1 : Int} (hk : kd v0 = 0) (h8 : am_w8 S = true) : wp m (CALL 49 2 x y z :: is) L (aI v1 :: aP v0 :: S) (sT h) Q ↔ wp 49 (am_ju 49 0) [aP v0, aI v1] [] (sT h) (fun r s' => wp m is L (am_pu r S) s' Q) := r_CALL (m' := 49) (As := [aP v0, aI v1]) rfl rfl rfl h8 (by show (true && (false || (true && am_is (sT h) v0 0))) = true; rw [show am_is (sT h) v0 0 = true from kd_is hk (by decide) h]; rfl)
theorem cl_50 {v0 v1 : Int} (hk : kd v0 = 0) (h8 : am_w8 S = true) : wp m (CALL 50 2 x y z :: is) L (aI v1 :: aP v0 :: S) (sT h) Q ↔ wp 50 (am_ju 50 0) [aP v0, aI v1] [] (sT h) (fun r s' => wp m is L (am_pu r S) s' Q) := r_CALL (m' := 50) (As := [aP v0, aI v1]) rfl rfl rfl h8 (by show (true && (false || (true && am_is (sT h) v0 0))) = true; rw [show am_is (sT h) v0 0 = true from kd_is hk (by decide) h]; rfl)
theorem cl_51 {v0 v1 : Int} (hk : kd v0 = 0) (h8 : am_w8 S = true) : wp m (CALL 51 2 x y z :: is) L (aI v1 :: aP v0 :: S) (sT h) Q ↔ wp 51 (am_ju 51 0) [aP v0, aI v1] [] (sT h) (fun r s' => wp m is L (am_pu r S) s' Q) := r_CALL (m' := 51) (As := [aP v0, aI v1]) rfl rfl rfl h8 (by show (true && (false || (true && am_is (sT h) v0 0))) = true; rw [show am_is (sT h) v0 0 = true from kd_is hk (by decide) h]; rfl)
theorem cl_52 {v0 v1 v2 : Int} (hk : kd v0 = 10) (h8 : am_w8 S = true) : wp m (CALL 52 3 x y z :: is) L (aI v2 :: aI v1 :: aP v0 :: S) (sT h) Q ↔ wp 52 (am_ju 52 0) [aP v0, aI v1, aI v2] [] (sT h) (fun r s' => wp m is L (am_pu r S) s' Q) := r_CALL (m' := 52) (As := [aP v0, aI v1, aI v2]) rfl rfl rfl h8 (by show (true && (false || (true && am_is (sT h) v0 10))) = true; rw [show am_is (sT h) v0 10 = true from kd_is hk (by decide) h]; rfl)
theorem cl_53 {v0 v1 v2 : Int} (h8 : am_w8 S = true) : wp m (CALL 53 3 x y z :: is) L (aI v2 :: aI v1 :: aP v0 :: S) (sT h) Q ↔ wp 53 (am_ju 53 0) [aP v0, aI v1, aI v2, aX, aX, aX] [] (sT h) (fun r s' => wp m is L (am_pu r S) s' Q) := r_CALL (m' := 53) (As := [aP v0, aI v1, aI v2]) rfl rfl rfl h8 rfl
theorem cl_54 {v0 v1 v2 : Int} (hk : kd v0 = 11) (h8 : am_w8 S = true) : wp m (CALL 54 3 x y z :: is) L (aI v2 :: aI v1 :: aP v0 :: S) (sT h) Q ↔ wp 54 (am_ju 54 0) [aP v0, aI v1, aI v2] [] (sT h) (fun r s' => wp m is L (am_pu r S) s' Q) := r_CALL (m' := 54) (As := [aP v0, aI v1, aI v2]) rfl rfl rfl h8 (by show (true && (false || (true && am_is (sT h) v0 11))) = true; rw [show am_is (sT h) v0 11 = true from kd_is hk (by decide) h]; rfl)
theorem cl_55 {v0 : Int} (h8 : am_w8 S = true) : wp m (CALL 55 1 x y z :: is) L (aI v0 :: S) (sT h) Q ↔ wp 55 (am_ju 55 0) [aI v0] [] (sT h) (fun r s' => wp m is L (am_pu r S) s' Q) := r_CALL (m' := 55) (As := [aI v0]) rfl rfl rfl h8 rfl
theorem cl_56 {v0 v1 v2 : Int} (hk : kd v0 = 0) (h8 : am_w8 S = true) : wp m (CALL 56 3 x y z :: is) L (aI v2 :: aI v1 :: aP v0 :: S) (sT h) Q ↔ wp 56 (am_ju 56 0) [aP v0, aI v1, aI v2, aX, aX] [] (sT h) (fun r s' => wp m is L (am_pu r S) s' Q) := r_CALL (m' := 56) (As := [aP v0, aI v1, aI v2]) rfl rfl rfl h8 (by show (true && (false || (true && am_is (sT h) v0 0))) = true; rw [show am_is (sT h) v0 0 = true from kd_is hk (by decide) h]; rfl)
theorem cl_57 {v0 v1 v2 v3 : Int} (hk : kd v0 = 10) (h8 : am_w8 S = true) : wp m (CALL 57 4 x y z :: is) L (aI v3 :: aI v2 :: aI v1 :: aP v0 :: S) (sT h) Q ↔ wp 57 (am_ju 57 0) [aP v0, aI v1, aI v2, aI v3] [] (sT h) (fun r s' => wp m is L (am_pu r S) s' Q) := r_CALL (m' := 57) (As := [aP v0, aI v1, aI v2, aI v3]) rfl rfl rfl h8 (by show (true && (false || (true && am_is (sT h) v0 10))) = true; rw [show am_is (sT h) v0 10 = true from kd_is hk (by decide) h]; rfl)
theorem cl_58 {v0 v1 v2 v3 : Int} (h8 : am_w8 S = true) : wp m (CALL 58 4 x y z :: is) L (aI v3 :: aI v2 :: aI v1 :: aP v0 :: S) (sT h) Q ↔ wp 58 (am_ju 58 0) [aP v0, aI v1, aI v2, aI v3, aX, aX, aX] [] (sT h) (fun r s' => wp m is L (am_pu r S) s' Q) := r_CALL (m' := 58) (As := [aP v0, aI v1, aI v2, aI v3]) rfl rfl rfl h8 rfl
theorem cl_59 {v0 v1 v2 v3 : Int} (hk : kd v0 = 11) (h8 : am_w8 S = true) : wp m (CALL 59 4 x y z :: is) L (aI v3 :: aI v2 :: aI v1 :: aP v0 :: S) (sT h) Q ↔ wp 59 (am_ju 59 0) [aP v0, aI v1, aI v2, aI v3] [] (sT h) (fun r s' => wp m is L (am_pu r S) s' Q) := r_CALL (m' := 59) (As := [aP v0, aI v1, aI v2, aI v3]) rfl rfl rfl h8 (by show (true && (false || (true && am_is (sT h) v0 11))) = true; rw [show am_is (sT h) v0 11 = true from kd_is hk (by decide) h]; rfl)
theorem cl_60 {v0 v1 v2 : Int} (hk : kd v0 = 10) (h8 : am_w8 S = true) : wp m (CALL 60 3 x y z :: is) L (aI v2 :: aI v1 :: aP v0 :: S) (sT h) Q ↔ wp 60 (am_ju 60 0) [aP v0, aI v1, aI v2, aX] [] (sT h) (fun r s' => wp m is L (am_pu r S) s' Q) := r_CALL (m' := 60) (As := [aP v0, aI v1, aI v2]) rfl rfl rfl h8 (by show (true && (false || (true && am_is (sT h) v0 10))) = true; rw [show am_is (sT h) v0 10 = true from kd_is hk (by decide) h]; rfl)
theorem cl_61 {v0 v1 v2 : Int} (hk : kd v0 = 11) (h8 : am_w8 S = true) : wp m (CALL 61 3 x y z :: is) L (aI v2 :: aI v1 :: aP v0 :: S) (sT h) Q ↔ wp 61 (am_ju 61 0) [aP v0, aI v1, aI v2] [] (sT h) (fun r s' => wp m is L (am_pu r S) s' Q) := r_CALL (m' := 61) (As := [aP v0, aI v1, aI v2]) rfl rfl rfl h8 (by show (true && (false || (true && am_is (sT h) v0 11))) = true; rw [show am_is (sT h) v0 11 = true from kd_is hk (by decide) h]; rfl)
theorem cl_62 {v0 v1 v2 v3 : Int} (hk : kd v0 = 10) (h8 : am_w8 S = true) : wp m (CALL 62 4 x y z :: is) L (aI v3 :: aI v2 :: aI v1 :: aP v0 :: S) (sT h) Q ↔ wp 62 (am_ju 62 0) [aP v0, aI v1, aI v2, aI v3, aX, aX] [] (sT h) (fun r s' => wp m is L (am_pu r S) s' Q) := r_CALL (m' := 62) (As := [aP v0, aI v1, aI v2, aI v3]) rfl rfl rfl h8 (by show (true && (false || (true && am_is (sT h) v0 10))) = true; rw [show am_is (sT h) v0 10 = true from kd_is hk (by decide) h]; rfl)
theorem cl_63 {v0 v1 v2 v3 : Int} (hk : kd v0 = 11) (h8 : am_w8 S = true) : wp m (CALL 63 4 x y z :: is) L (aI v3 :: aI v2 :: aI v1 :: aP v0 :: S) (sT h) Q ↔ wp 63 (am_ju 63 0) [aP v0, aI v1, aI v2, aI v3, aX] [] (sT h) (fun r s' => wp m is L (am_pu r S) s' Q) := r_CALL (m' := 63) (As := [aP v0, aI v1, aI v2, aI v3]) rfl rfl rfl h8 (by show (true && (false || (true && am_is (sT h) v0 11))) = true; rw [show am_is (sT h) v0 11 = true from kd_is hk (by decide) h]; rfl)
theorem cl_64 {v0 v1 : Int} (hk : kd v0 = 7) (h8 : am_w8 S = true) : wp m (CALL 64 2 x y z :: is) L (aI v1 :: aP v0 :: S) (sT h) Q ↔ wp 64 (am_ju 64 0) [aP v0, aI v1] [] (sT h) (fun r s' => wp m is L (am_pu r S) s' Q) := r_CALL (m' := 64) (As := [aP v0, aI v1]) rfl rfl rfl h8 (by show (true && (false || (true && am_is (sT h) v0 7))) = true; rw [show am_is (sT h) v0 7 = true from kd_is hk (by decide) h]; rfl)
theorem cl_65 {v0 v1 : Int} (hk : kd v0 = 10) (h8 : am_w8 S = true) : wp m (CALL 65 2 x y z :: is) L (aI v1 :: aP v0 :: S) (sT h) Q ↔ wp 65 (am_ju 65 0) [aP v0, aI v1] [] (sT h) (fun r s' => wp m is L (am_pu r S) s' Q) := r_CALL (m' := 65) (As := [aP v0, aI v1]) rfl rfl rfl h8 (by show (true && (false || (true && am_is (sT h) v0 10))) = true; rw [show am_is (sT h) v0 10 = true from kd_is hk (by decide) h]; rfl)
theorem cl_66 {v0 v1 : Int} (hk : kd v0 = 11) (h8 : am_w8 S = true) : wp m (CALL 66 2 x y z :: is) L (aI v1 :: aP v0 :: S) (sT h) Q ↔ wp 66 (am_ju 66 0) [aP v0, aI v1] [] (sT h) (fun r s' => wp m is L (am_pu r S) s' Q) := r_CALL (m' := 66) (As := [aP v0, aI v1]) rfl rfl rfl h8 (by show (true && (false || (true && am_is (sT h) v0 11))) = true; rw [show am_is (sT h) v0 11 = true from kd_is hk (by decide) h]; rfl)
theorem cl_67 {v0 : Int} (hk : kd v0 = 7) (h8 : am_w8 S = true) : wp m (CALL 67 1 x y z :: is) L (aP v0 :: S) (sT h) Q ↔ wp 67 (am_ju 67 0) [aP v0] [] (sT h) (fun r s' => wp m is L (am_pu r S) s' Q) := r_CALL (m' := 67) (As := [aP v0]) rfl rfl rfl h8 (by show (true && (false || (true && am_is (sT h) v0 7))) = true; rw [show am_is (sT h) v0 7 = true from kd_is hk (by decide) h]; rfl)
theorem cl_68 {v0 : Int} (h8 : am_w8 S = true) : wp m (CALL 68 1 x y z :: is) L (aI v0 :: S) (sT h) Q ↔ wp 68 (am_ju 68 0) [aI v0] [] (sT h) (fun r s' => wp m is L (am_pu r S) s' Q) := r_CALL (m' := 68) (As := [aI v0]) rfl rfl rfl h8 rfl
theorem cl_69 {v0 : Int} (hk : kd v0 = 7) (h8 : am_w8 S = true) : wp m (CALL 69 1 x y z :: is) L (aP v0 :: S) (sT h) Q ↔ wp 69 (am_ju 69 0) [aP v0] [] (sT h) (fun r s' => wp m is L (am_pu r S) s' Q) := r_CALL (m' := 69) (As := [aP v0]) rfl rfl rfl h8 (by show (true && (false || (true && am_is (sT h) v0 7))) = true; rw [show am_is (sT h) v0 7 = true from kd_is hk (by decide) h]; rfl)
theorem cl_70 {v0 v1 : Int} (hk : kd v0 = 7) (h8 : am_w8 S = true) : wp m (CALL 70 2 x y z :: is) L (aP v1 :: aP v0 :: S) (sT h) Q ↔ wp 70 (am_ju 70 0) [aP v0, aP v1, aX, aX] [] (sT h) (fun r s' => wp m is L (am_pu r S) s' Q) := r_CALL (m' := 70) (As := [aP v0, aP v1]) rfl rfl rfl h8 (by show (true && (false || (true && am_is (sT h) v0 7))) = true; rw [show am_is (sT h) v0 7 = true from kd_is hk (by decide) h]; rfl)
theorem cl_71 {v0 v1 : Int} (h8 : am_w8 S = true) : wp m (CALL 71 2 x y z :: is) L (aP v1 :: aP v0 :: S) (sT h) Q ↔ wp 71 (am_ju 71 0) [aP v0, aP v1] [] (sT h) (fun r s' => wp m is L (am_pu r S) s' Q) := r_CALL (m' := 71) (As := [aP v0, aP v1]) rfl rfl rfl h8 rfl
theorem cl_72 {v0 v1 : Int} (hk : kd v0 = 8) (h8 : am_w8 S = true) : wp m (CALL 72 2 x y z :: is) L (aP v1 :: aP v0 :: S) (sT h) Q ↔ wp 72 (am_ju 72 0) [aP v0, aP v1] [] (sT h) (fun r s' => wp m is L (am_pu r S) s' Q) := r_CALL (m' := 72) (As := [aP v0, aP v1]) rfl rfl rfl h8 (by show (true && (false || (true && am_is (sT h) v0 8))) = true; rw [show am_is (sT h) v0 8 = true from kd_is hk (by decide) h]; rfl)
theorem cl_73 {v0 v1 : Int} (hk : kd v0 = 9) (h8 : am_w8 S = true) : wp m (CALL 73 2 x y z :: is) L (aP v1 :: aP v0 :: S) (sT h) Q ↔ wp 73 (am_ju 73 0) [aP v0, aP v1] [] (sT h) (fun r s' => wp m is L (am_pu r S) s' Q) := r_CALL (m' := 73) (As := [aP v0, aP v1]) rfl rfl rfl h8 (by show (true && (false || (true && am_is (sT h) v0 9))) = true; rw [show am_is (sT h) v0 9 = true from kd_is hk (by decide) h]; rfl)
theorem cl_74 {v0 : Int} (hk : kd v0 = 10) (h8 : am_w8 S = true) : wp m (CALL 74 1 x y z :: is) L (aP v0 :: S) (sT h) Q ↔ wp 74 (am_ju 74 0) [aP v0, aX] [] (sT h) (fun r s' => wp m is L (am_pu r S) s' Q) := r_CALL (m' := 74) (As := [aP v0]) rfl rfl rfl h8 (by show (true && (false || (true && am_is (sT h) v0 10))) = true; rw [show am_is (sT h) v0 10 = true from kd_is hk (by decide) h]; rfl)
theorem cl_75 {v0 : Int} (hk : kd v0 = 11) (h8 : am_w8 S = true) : wp m (CALL 75 1 x y z :: is) L (aP v0 :: S) (sT h) Q ↔ wp 75 (am_ju 75 0) [aP v0] [] (sT h) (fun r s' => wp m is L (am_pu r S) s' Q) := r_CALL (m' := 75) (As := [aP v0]) rfl rfl rfl h8 (by show (true && (false || (true && am_is (sT h) v0 11))) = true; rw [show am_is (sT h) v0 11 = true from kd_is hk (by decide) h]; rfl)
theorem cl_76 {v0 : Int} (h8 : am_w8 S = true) : wp m (CALL 76 1 x y z :: is) L (aI v0 :: S) (sT h) Q ↔ wp 76 (am_ju 76 0) [aI v0] [] (sT h) (fun r s' => wp m is L (am_pu r S) s' Q) := r_CALL (m' := 76) (As := [aI v0]) rfl rfl rfl h8 rfl
theorem cl_77 {v0 v1 : Int} (hk : kd v0 = 11) (h8 : am_w8 S = true) : wp m (CALL 77 2 x y z :: is) L (aI v1 :: aP v0 :: S) (sT h) Q ↔ wp 77 (am_ju 77 0) [aP v0, aI v1] [] (sT h) (fun r s' => wp m is L (am_pu r S) s' Q) := r_CALL (m' := 77) (As := [aP v0, aI v1]) rfl rfl rfl h8 (by show (true && (false || (true && am_is (sT h) v0 11))) = true; rw [show am_is (sT h) v0 11 = true from kd_is hk (by decide) h]; rfl)
theorem cl_78 {v0 : Int} (hk : kd v0 = 11) (h8 : am_w8 S = true) : wp m (CALL 78 1 x y z :: is) L (aP v0 :: S) (sT h) Q ↔ wp 78 (am_ju 78 0) [aP v0, aX, aX, aX] [] (sT h) (fun r s' => wp m is L (am_pu r S) s' Q) := r_CALL (m' := 78) (As := [aP v0]) rfl rfl rfl h8 (by show (true && (false || (true && am_is (sT h) v0 11))) = true; rw [show am_is (sT h) v0 11 = true from kd_is hk (by decide) h]; rfl)
theorem cl_79 {v0 v1 : Int} (h8 : am_w8 S = true) : wp m (CALL 79 2 x y z :: is) L (aI v1 :: aP v0 :: S) (sT h) Q ↔ wp 79 (am_ju 79 0) [aP v0, aI v1, aX, aX] [] (sT h) (fun r s' => wp m is L (am_pu r S) s' Q) := r_CALL (m' := 79) (As := [aP v0, aI v1]) rfl rfl rfl h8 rfl
theorem cl_80 {v0 : Int} (h8 : am_w8 S = true) : wp m (CALL 80 1 x y z :: is) L (aI v0 :: S) (sT h) Q ↔ wp 80 (am_ju 80 0) [aI v0] [] (sT h) (fun r s' => wp m is L (am_pu r S) s' Q) := r_CALL (m' := 80) (As := [aI v0]) rfl rfl rfl h8 rfl
theorem cl_81 {v0 v1 : Int} (hk : kd v0 = 7) (h8 : am_w8 S = true) : wp m (CALL 81 2 x y z :: is) L (aP v1 :: aP v0 :: S) (sT h) Q ↔ wp 81 (am_ju 81 0) [aP v0, aP v1, aX, aX, aX] [] (sT h) (fun r s' => wp m is L (am_pu r S) s' Q) := r_CALL (m' := 81) (As := [aP v0, aP v1]) rfl rfl rfl h8 (by show (true && (false || (true && am_is (sT h) v0 7))) = true; rw [show am_is (sT h) v0 7 = true from kd_is hk (by decide) h]; rfl)
theorem cl_82 {v0 : Int} (hk : kd v0 = 7) (h8 : am_w8 S = true) : wp m (CALL 82 1 x y z :: is) L (aP v0 :: S) (sT h) Q ↔ wp 82 (am_ju 82 0) [aP v0, aX, aX] [] (sT h) (fun r s' => wp m is L (am_pu r S) s' Q) := r_CALL (m' := 82) (As := [aP v0]) rfl rfl rfl h8 (by show (true && (false || (true && am_is (sT h) v0 7))) = true; rw [show am_is (sT h) v0 7 = true from kd_is hk (by decide) h]; rfl)
theorem cl_83 {v0 v1 v2 v3 : Int} (hk : kd v0 = 7) (h8 : am_w8 S = true) : wp m (CALL 83 4 x y z :: is) L (aI v3 :: aI v2 :: aI v1 :: aP v0 :: S) (sT h) Q ↔ wp 83 (am_ju 83 0) [aP v0, aI v1, aI v2, aI v3, aX] [] (sT h) (fun r s' => wp m is L (am_pu r S) s' Q) := r_CALL (m' := 83) (As := [aP v0, aI v1, aI v2, aI v3]) rfl rfl rfl h8 (by show (true && (false || (true && am_is (sT h) v0 7))) = true; rw [show am_is (sT h) v0 7 = true from kd_is hk (by decide) h]; rfl)
theorem cl_84 {v0 v1 : Int} (hk : kd v0 = 7) (h8 : am_w8 S = true) : wp m (CALL 84 2 x y z :: is) L (aP v1 :: aP v0 :: S) (sT h) Q ↔ wp 84 (am_ju 84 0) [aP v0, aP v1, aX, aX, aX, aX, aX] [] (sT h) (fun r s' => wp m is L (am_pu r S) s' Q) := r_CALL (m' := 84) (As := [aP v0, aP v1]) rfl rfl rfl h8 (by show (true && (false || (true && am_is (sT h) v0 7))) = true; rw [show am_is (sT h) v0 7 = true from kd_is hk (by decide) h]; rfl)
theorem cl_85 {v0 v1 v2 : Int} (hk : kd v0 = 7) (h8 : am_w8 S = true) : wp m (CALL 85 3 x y z :: is) L (aP v2 :: aP v1 :: aP v0 :: S) (sT h) Q ↔ wp 85 (am_ju 85 0) [aP v0, aP v1, aP v2, aX, aX] [] (sT h) (fun r s' => wp m is L (am_pu r S) s' Q) := r_CALL (m' := 85) (As := [aP v0, aP v1, aP v2]) rfl rfl rfl h8 (by show (true && (false || (true && am_is (sT h) v0 7))) = true; rw [show am_is (sT h) v0 7 = true from kd_is hk (by decide) h]; rfl)
theorem cl_86 {v0 v1 v2 : Int} (hk : kd v0 = 7) (h8 : am_w8 S = true) : wp m (CALL 86 3 x y z :: is) L (aP v2 :: aP v1 :: aP v0 :: S) (sT h) Q ↔ wp 86 (am_ju 86 0) [aP v0, aP v1, aP v2] [] (sT h) (fun r s' => wp m is L (am_pu r S) s' Q) := r_CALL (m' := 86) (As := [aP v0, aP v1, aP v2]) rfl rfl rfl h8 (by show (true && (false || (true && am_is (sT h) v0 7))) = true; rw [show am_is (sT h) v0 7 = true from kd_is hk (by decide) h]; rfl)
theorem cl_87 {v0 v1 : Int} (hk : kd v0 = 2) (h8 : am_w8 S = true) : wp m (CALL 87 2 x y z :: is) L (aP v1 :: aP v0 :: S) (sT h) Q ↔ wp 87 (am_ju 87 0) [aP v0, aP v1] [] (sT h) (fun r s' => wp m is L (am_pu r S) s' Q) := r_CALL (m' := 87) (As := [aP v0, aP v1]) rfl rfl rfl h8 (by show (true && (false || (true && am_is (sT h) v0 2))) = true; rw [show am_is (sT h) v0 2 = true from kd_is hk (by decide) h]; rfl)
theorem cl_88 {v0 v1 v2 : Int} (hk : kd v0 = 9) (h8 : am_w8 S = true) : wp m (CALL 88 3 x y z :: is) L (aP v2 :: aP v1 :: aP v0 :: S) (sT h) Q ↔ wp 88 (am_ju 88 0) [aP v0, aP v1, aP v2, aX] [] (sT h) (fun r s' => wp m is L (am_pu r S) s' Q) := r_CALL (m' := 88) (As := [aP v0, aP v1, aP v2]) rfl rfl rfl h8 (by show (true && (false || (true && am_is (sT h) v0 9))) = true; rw [show am_is (sT h) v0 9 = true from kd_is hk (by decide) h]; rfl)
theorem cl_89 {v0 : Int} (hk : kd v0 = 10) (h8 : am_w8 S = true) : wp m (CALL 89 1 x y z :: is) L (aP v0 :: S) (sT h) Q ↔ wp 89 (am_ju 89 0) [aP v0, aX] [] (sT h) (fun r s' => wp m is L (am_pu r S) s' Q) := r_CALL (m' := 89) (As := [aP v0]) rfl rfl rfl h8 (by show (true && (false || (true && am_is (sT h) v0 10))) = true; rw [show am_is (sT h) v0 10 = true from kd_is hk (by decide) h]; rfl)
theorem cl_90 {v0 v1 : Int} (h8 : am_w8 S = true) : wp m (CALL 90 2 x y z :: is) L (aP v1 :: aP v0 :: S) (sT h) Q ↔ wp 90 (am_ju 90 0) [aP v0, aP v1, aX] [] (sT h) (fun r s' => wp m is L (am_pu r S) s' Q) := r_CALL (m' := 90) (As := [aP v0, aP v1]) rfl rfl rfl h8 rfl
theorem cl_91 {v0 : Int} (h8 : am_w8 S = true) : wp m (CALL 91 1 x y z :: is) L (aI v0 :: S) (sT h) Q ↔ wp 91 (am_ju 91 0) [aI v0] [] (sT h) (fun r s' => wp m is L (am_pu r S) s' Q) := r_CALL (m' := 91) (As := [aI v0]) rfl rfl rfl h8 rfl
theorem cl_92 {v0 : Int} (hk : kd v0 = 11) (h8 : am_w8 S = true) : wp m (CALL 92 1 x y z :: is) L (aP v0 :: S) (sT h) Q ↔ wp 92 (am_ju 92 0) [aP v0, aX] [] (sT h) (fun r s' => wp m is L (am_pu r S) s' Q) := r_CALL (m' := 92) (As := [aP v0]) rfl rfl rfl h8 (by show (true && (false || (true && am_is (sT h) v0 11))) = true; rw [show am_is (sT h) v0 11 = true from kd_is hk (by decide) h]; rfl)
theorem cl_93 {v0 v1 : Int} (hk : kd v0 = 11) (h8 : am_w8 S = true) : wp m (CALL 93 2 x y z :: is) L (aI v1 :: aP v0 :: S) (sT h) Q ↔ wp 93 (am_ju 93 0) [aP v0, aI v1] [] (sT h) (fun r s' => wp m is L (am_pu r S) s' Q) := r_CALL (m' := 93) (As := [aP v0, aI v1]) rfl rfl rfl h8 (by show (true && (false || (true && am_is (sT h) v0 11))) = true; rw [show am_is (sT h) v0 11 = true from kd_is hk (by decide) h]; rfl)
theorem cl_94 {v0 : Int} (hk : kd v0 = 11) (h8 : am_w8 S = true) : wp m (CALL 94 1 x y z :: is) L (aP v0 :: S) (sT h) Q ↔ wp 94 (am_ju 94 0) [aP v0, aX, aX] [] (sT h) (fun r s' => wp m is L (am_pu r S) s' Q) := r_CALL (m' := 94) (As := [aP v0]) rfl rfl rfl h8 (by show (true && (false || (true && am_is (sT h) v0 11))) = true; rw [show am_is (sT h) v0 11 = true from kd_is hk (by decide) h]; rfl)
theorem cl_95 {v0 v1 : Int} (hk : kd v0 = 11) (h8 : am_w8 S = true) : wp m (CALL 95 2 x y z :: is) L (aI v1 :: aP v0 :: S) (sT h) Q ↔ wp 95 (am_ju 95 0) [aP v0, aI v1, aX] [] (sT h) (fun r s' => wp m is L (am_pu r S) s' Q) := r_CALL (m' := 95) (As := [aP v0, aI v1]) rfl rfl rfl h8 (by show (true && (false || (true && am_is (sT h) v0 11))) = true; rw [show am_is (sT h) v0 11 = true from kd_is hk (by decide) h]; rfl)
theorem cl_96 {v0 v1 v2 : Int} (hk : kd v0 = 11) (h8 : am_w8 S = true) : wp m (CALL 96 3 x y z :: is) L (aI v2 :: aI v1 :: aP v0 :: S) (sT h) Q ↔ wp 96 (am_ju 96 0) [aP v0, aI v1, aI v2] [] (sT h) (fun r s' => wp m is L (am_pu r S) s' Q) := r_CALL (m' := 96) (As := [aP v0, aI v1, aI v2]) rfl rfl rfl h8 (by show (true && (false || (true && am_is (sT h) v0 11))) = true; rw [show am_is (sT h) v0 11 = true from kd_is hk (by decide) h]; rfl)
theorem cl_97 {v0 : Int} (hk : kd v0 = 11) (h8 : am_w8 S = true) : wp m (CALL 97 1 x y z :: is) L (aP v0 :: S) (sT h) Q ↔ wp 97 (am_ju 97 0) [aP v0, aX, aX, aX, aX, aX] [] (sT h) (fun r s' => wp m is L (am_pu r S) s' Q) := r_CALL (m' := 97) (As := [aP v0]) rfl rfl rfl h8 (by show (true && (false || (true && am_is (sT h) v0 11))) = true; rw [show am_is (sT h) v0 11 = true from kd_is hk (by decide) h]; rfl)
theorem cl_98 {v0 : Int} (hk : kd v0 = 11) (h8 : am_w8 S = true) : wp m (CALL 98 1 x y z :: is) L (aP v0 :: S) (sT h) Q ↔ wp 98 (am_ju 98 0) [aP v0] [] (sT h) (fun r s' => wp m is L (am_pu r S) s' Q) := r_CALL (m' := 98) (As := [aP v0]) rfl rfl rfl h8 (by show (true && (false || (true && am_is (sT h) v0 11))) = true; rw [show am_is (sT h) v0 11 = true from kd_is hk (by decide) h]; rfl)
theorem cl_99 {v0 : Int} (hk : kd v0 = 11) (h8 : am_w8 S = true) : wp m (CALL 99 1 x y z :: is) L (aP v0 :: S) (sT h) Q ↔ wp 99 (am_ju 99 0) [aP v0] [] (sT h) (fun r s' => wp m is L (am_pu r S) s' Q) := r_CALL (m' := 99) (As := [aP v0]) rfl rfl rfl h8 (by show (true && (false || (true && am_is (sT h) v0 11))) = true; rw [show am_is (sT h) v0 11 = true from kd_is hk (by decide) h]; rfl)
theorem cl_100 {v0 v1 : Int} (hk : kd v0 = 8) (h8 : am_w8 S = true) : wp m (CALL 100 2 x y z :: is) L (aI v1 :: aP v0 :: S) (sT h) Q ↔ wp 100 (am_ju 100 0) [aP v0, aI v1] [] (sT h) (fun r s' => wp m is L (am_pu r S) s' Q) := r_CALL (m' := 100) (As := [aP v0, aI v1]) rfl rfl rfl h8 (by show (true && (false || (true && am_is (sT h) v0 8))) = true; rw [show am_is (sT h) v0 8 = true from kd_is hk (by decide) h]; rfl)
theorem cl_101 {v0 v1 : Int} (hk : kd v0 = 10) (h8 : am_w8 S = true) : wp m (CALL 101 2 x y z :: is) L (aI v1 :: aP v0 :: S) (sT h) Q ↔ wp 101 (am_ju 101 0) [aP v0, aI v1] [] (sT h) (fun r s' => wp m is L (am_pu r S) s' Q) := r_CALL (m' := 101) (As := [aP v0, aI v1]) rfl rfl rfl h8 (by show (true && (false || (true && am_is (sT h) v0 10))) = true; rw [show am_is (sT h) v0 10 = true from kd_is hk (by decide) h]; rfl)
theorem cl_102 {v0 v1 : Int} (hk : kd v0 = 11) (h8 : am_w8 S = true) : wp m (CALL 102 2 x y z :: is) L (aI v1 :: aP v0 :: S) (sT h) Q ↔ wp 102 (am_ju 102 0) [aP v0, aI v1] [] (sT h) (fun r s' => wp m is L (am_pu r S) s' Q) := r_CALL (m' := 102) (As := [aP v0, aI v1]) rfl rfl rfl h8 (by show (true && (false || (true && am_is (sT h) v0 11))) = true; rw [show am_is (sT h) v0 11 = true from kd_is hk (by decide) h]; rfl)
theorem cl_103 {v0 : Int} (hk : kd v0 = 9) (h8 : am_w8 S = true) : wp m (CALL 103 1 x y z :: is) L (aP v0 :: S) (sT h) Q ↔ wp 103 (am_ju 103 0) [aP v0, aX, aX] [] (sT h) (fun r s' => wp m is L (am_pu r S) s' Q) := r_CALL (m' := 103) (As := [aP v0]) rfl rfl rfl h8 (by show (true && (false || (true && am_is (sT h) v0 9))) = true; rw [show am_is (sT h) v0 9 = true from kd_is hk (by decide) h]; rfl)
theorem cl_104 {v0 v1 : Int} (hk : kd v0 = 8) (h8 : am_w8 S = true) : wp m (CALL 104 2 x y z :: is) L (aI v1 :: aP v0 :: S) (sT h) Q ↔ wp 104 (am_ju 104 0) [aP v0, aI v1, aX, aX] [] (sT h) (fun r s' => wp m is L (am_pu r S) s' Q) := r_CALL (m' := 104) (As := [aP v0, aI v1]) rfl rfl rfl h8 (by show (true && (false || (true && am_is (sT h) v0 8))) = true; rw [show am_is (sT h) v0 8 = true from kd_is hk (by decide) h]; rfl)
theorem cl_105 {v0 v1 : Int} (hk : kd v0 = 10) (h8 : am_w8 S = true) : wp m (CALL 105 2 x y z :: is) L (aI v1 :: aP v0 :: S) (sT h) Q ↔ wp 105 (am_ju 105 0) [aP v0, aI v1] [] (sT h) (fun r s' => wp m is L (am_pu r S) s' Q) := r_CALL (m' := 105) (As := [aP v0, aI v1]) rfl rfl rfl h8 (by show (true && (false || (true && am_is (sT h) v0 10))) = true; rw [show am_is (sT h) v0 10 = true from kd_is hk (by decide) h]; rfl)
theorem cl_106 {v0 : Int} (hk : kd v0 = 11) (h8 : am_w8 S = true) : wp m (CALL 106 1 x y z :: is) L (aP v0 :: S) (sT h) Q ↔ wp 106 (am_ju 106 0) [aP v0, aX, aX] [] (sT h) (fun r s' => wp m is L (am_pu r S) s' Q) := r_CALL (m' := 106) (As := [aP v0]) rfl rfl rfl h8 (by show (true && (false || (true && am_is (sT h) v0 11))) = true; rw [show am_is (sT h) v0 11 = true from kd_is hk (by decide) h]; rfl)
theorem cl_107 {v0 : Int} (hk : kd v0 = 11) (h8 : am_w8 S = true) : wp m (CALL 107 1 x y z :: is) L (aP v0 :: S) (sT h) Q ↔ wp 107 (am_ju 107 0) [aP v0, aX, aX] [] (sT h) (fun r s' => wp m is L (am_pu r S) s' Q) := r_CALL (m' := 107) (As := [aP v0]) rfl rfl rfl h8 (by show (true && (false || (true && am_is (sT h) v0 11))) = true; rw [show am_is (sT h) v0 11 = true from kd_is hk (by decide) h]; rfl)
theorem cl_108 {v0 v1 : Int} (hk : kd v0 = 11) (h8 : am_w8 S = true) : wp m (CALL 108 2 x y z :: is) L (aI v1 :: aP v0 :: S) (sT h) Q ↔ wp 108 (am_ju 108 0) [aP v0, aI v1] [] (sT h) (fun r s' => wp m is L (am_pu r S) s' Q) := r_CALL (m' := 108) (As := [aP v0, aI v1]) rfl rfl rfl h8 (by show (true && (false || (true && am_is (sT h) v0 11))) = true; rw [show am_is (sT h) v0 11 = true from kd_is hk (by decide) h]; rfl)
theorem cl_109 {v0 : Int} (hk : kd v0 = 9) (h8 : am_w8 S = true) : wp m (CALL 109 1 x y z :: is) L (aP v0 :: S) (sT h) Q ↔ wp 109 (am_ju 109 0) [aP v0] [] (sT h) (fun r s' => wp m is L (am_pu r S) s' Q) := r_CALL (m' := 109) (As := [aP v0]) rfl rfl rfl h8 (by show (true && (false || (true && am_is (sT h) v0 9))) = true; rw [show am_is (sT h) v0 9 = true from kd_is hk (by decide) h]; rfl)
theorem cl_110 {v0 v1 : Int} (hk : kd v0 = 3) (h8 : am_w8 S = true) : wp m (CALL 110 2 x y z :: is) L (aP v1 :: aP v0 :: S) (sT h) Q ↔ wp 110 (am_ju 110 0) [aP v0, aP v1] [] (sT h) (fun r s' => wp m is L (am_pu r S) s' Q) := r_CALL (m' := 110) (As := [aP v0, aP v1]) rfl rfl rfl h8 (by show (true && (false || (true && am_is (sT h) v0 3))) = true; rw [show am_is (sT h) v0 3 = true from kd_is hk (by decide) h]; rfl)
theorem cl_111 {v0 v1 : Int} (hk : kd v0 = 5) (h8 : am_w8 S = true) : wp m (CALL 111 2 x y z :: is) L (aP v1 :: aP v0 :: S) (sT h) Q ↔ wp 111 (am_ju 111 0) [aP v0, aP v1] [] (sT h) (fun r s' => wp m is L (am_pu r S) s' Q) := r_CALL (m' := 111) (As := [aP v0, aP v1]) rfl rfl rfl h8 (by show (true && (false || (true && am_is (sT h) v0 5))) = true; rw [show am_is (sT h) v0 5 = true from kd_is hk (by decide) h]; rfl)
theorem cl_112 {v0 : Int} (hk : kd v0 = 3) (h8 : am_w8 S = true) : wp m (CALL 112 1 x y z :: is) L (aP v0 :: S) (sT h) Q ↔ wp 112 (am_ju 112 0) [aP v0] [] (sT h) (fun r s' => wp m is L (am_pu r S) s' Q) := r_CALL (m' := 112) (As := [aP v0]) rfl rfl rfl h8 (by show (true && (false || (true && am_is (sT h) v0 3))) = true; rw [show am_is (sT h) v0 3 = true from kd_is hk (by decide) h]; rfl)
theorem cl_113 {v0 v1 v2 : Int} (hk : kd v0 = 8) (h8 : am_w8 S = true) : wp m (CALL 113 3 x y z :: is) L (aI v2 :: aI v1 :: aP v0 :: S) (sT h) Q ↔ wp 113 (am_ju 113 0) [aP v0, aI v1, aI v2] [] (sT h) (fun r s' => wp m is L (am_pu r S) s' Q) := r_CALL (m' := 113) (As := [aP v0, aI v1, aI v2]) rfl rfl rfl h8 (by show (true && (false || (true && am_is (sT h) v0 8))) = true; rw [show am_is (sT h) v0 8 = true from kd_is hk (by decide) h]; rfl)
theorem cl_114 {v0 v1 : Int} (hk : kd v0 = 0) (h8 : am_w8 S = true) : wp m (CALL 114 2 x y z :: is) L (aI v1 :: aP v0 :: S) (sT h) Q ↔ wp 114 (am_ju 114 0) [aP v0, aI v1] [] (sT h) (fun r s' => wp m is L (am_pu r S) s' Q) := r_CALL (m' := 114) (As := [aP v0, aI v1]) rfl rfl rfl h8 (by show (true && (false || (true && am_is (sT h) v0 0))) = true; rw [show am_is (sT h) v0 0 = true from kd_is hk (by decide) h]; rfl)
theorem cl_115 {v0 v1 v2 : Int} (hk : kd v0 = 0) (h8 : am_w8 S = true) : wp m (CALL 115 3 x y z :: is) L (aI v2 :: aI v1 :: aP v0 :: S) (sT h) Q ↔ wp 115 (am_ju 115 0) [aP v0, aI v1, aI v2, aX] [] (sT h) (fun r s' => wp m is L (am_pu r S) s' Q) := r_CALL (m' := 115) (As := [aP v0, aI v1, aI v2]) rfl rfl rfl h8 (by show (true && (false || (true && am_is (sT h) v0 0))) = true; rw [show am_is (sT h) v0 0 = true from kd_is hk (by decide) h]; rfl)
theorem cl_116 {v0 : Int} (h8 : am_w8 S = true) : wp m (CALL 116 1 x y z :: is) L (aI v0 :: S) (sT h) Q ↔ wp 116 (am_ju 116 0) [aI v0] [] (sT h) (fun r s' => wp m is L (am_pu r S) s' Q) := r_CALL (m' := 116) (As := [aI v0]) rfl rfl rfl h8 rfl
theorem cl_117 {v0 v1 : Int} (hk : kd v0 = 0) (h8 : am_w8 S = true) : wp m (CALL 117 2 x y z :: is) L (aI v1 :: aP v0 :: S) (sT h) Q ↔ wp 117 (am_ju 117 0) [aP v0, aI v1] [] (sT h) (fun r s' => wp m is L (am_pu r S) s' Q) := r_CALL (m' := 117) (As := [aP v0, aI v1]) rfl rfl rfl h8 (by show (true && (false || (true && am_is (sT h) v0 0))) = true; rw [show am_is (sT h) v0 0 = true from kd_is hk (by decide) h]; rfl)
theorem cl_118 {v0 v1 v2 v3 : Int} (hk : kd v0 = 0) (h8 : am_w8 S = true) : wp m (CALL 118 4 x y z :: is) L (aI v3 :: aI v2 :: aP v1 :: aP v0 :: S) (sT h) Q ↔ wp 118 (am_ju 118 0) [aP v0, aP v1, aI v2, aI v3, aX, aX] [] (sT h) (fun r s' => wp m is L (am_pu r S) s' Q) := r_CALL (m' := 118) (As := [aP v0, aP v1, aI v2, aI v3]) rfl rfl rfl h8 (by show (true && (false || (true && am_is (sT h) v0 0))) = true; rw [show am_is (sT h) v0 0 = true from kd_is hk (by decide) h]; rfl)
theorem cl_119 {v0 v1 : Int} (hk : kd v0 = 9) (h8 : am_w8 S = true) : wp m (CALL 119 2 x y z :: is) L (aP v1 :: aP v0 :: S) (sT h) Q ↔ wp 119 (am_ju 119 0) [aP v0, aP v1, aX, aX, aX, aX] [] (sT h) (fun r s' => wp m is L (am_pu r S) s' Q) := r_CALL (m' := 119) (As := [aP v0, aP v1]) rfl rfl rfl h8 (by show (true && (false || (true && am_is (sT h) v0 9))) = true; rw [show am_is (sT h) v0 9 = true from kd_is hk (by decide) h]; rfl)
theorem cl_120 {v0 : Int} (hk : kd v0 = 10) (h8 : am_w8 S = true) : wp m (CALL 120 1 x y z :: is) L (aP v0 :: S) (sT h) Q ↔ wp 120 (am_ju 120 0) [aP v0] [] (sT h) (fun r s' => wp m is L (am_pu r S) s' Q) := r_CALL (m' := 120) (As := [aP v0]) rfl rfl rfl h8 (by show (true && (false || (true && am_is (sT h) v0 10))) = true; rw [show am_is (sT h) v0 10 = true from kd_is hk (by decide) h]; rfl)
theorem cl_121 {v0 : Int} (hk : kd v0 = 11) (h8 : am_w8 S = true) : wp m (CALL 121 1 x y z :: is) L (aP v0 :: S) (sT h) Q ↔ wp 121 (am_ju 121 0) [aP v0, aX, aX] [] (sT h) (fun r s' => wp m is L (am_pu r S) s' Q) := r_CALL (m' := 121) (As := [aP v0]) rfl rfl rfl h8 (by show (true && (false || (true && am_is (sT h) v0 11))) = true; rw [show am_is (sT h) v0 11 = true from kd_is hk (by decide) h]; rfl)
theorem cl_122 {v0 v1 : Int} (h8 : am_w8 S = true) : wp m (CALL 122 2 x y z :: is) L (aI v1 :: aI v0 :: S) (sT h) Q ↔ wp 122 (am_ju 122 0) [aI v0, aI v1] [] (sT h) (fun r s' => wp m is L (am_pu r S) s' Q) := r_CALL (m' := 122) (As := [aI v0, aI v1]) rfl rfl rfl h8 rfl
theorem cl_123 {v0 v1 v2 : Int} (h8 : am_w8 S = true) : wp m (CALL 123 3 x y z :: is) L (aI v2 :: aI v1 :: aP v0 :: S) (sT h) Q ↔ wp 123 (am_ju 123 0) [aP v0, aI v1, aI v2, aX] [] (sT h) (fun r s' => wp m is L (am_pu r S) s' Q) := r_CALL (m' := 123) (As := [aP v0, aI v1, aI v2]) rfl rfl rfl h8 rfl
theorem cl_124 {v0 v1 v2 : Int} (h8 : am_w8 S = true) : wp m (CALL 124 3 x y z :: is) L (aI v2 :: aI v1 :: aP v0 :: S) (sT h) Q ↔ wp 124 (am_ju 124 0) [aP v0, aI v1, aI v2, aX, aX] [] (sT h) (fun r s' => wp m is L (am_pu r S) s' Q) := r_CALL (m' := 124) (As := [aP v0, aI v1, aI v2]) rfl rfl rfl h8 rfl
theorem cl_125 {v0 v1 v2 : Int} (h8 : am_w8 S = true) : wp m (CALL 125 3 x y z :: is) L (aI v2 :: aI v1 :: aP v0 :: S) (sT h) Q ↔ wp 125 (am_ju 125 0) [aP v0, aI v1, aI v2, aX, aX] [] (sT h) (fun r s' => wp m is L (am_pu r S) s' Q) := r_CALL (m' := 125) (As := [aP v0, aI v1, aI v2]) rfl rfl rfl h8 rfl
theorem cl_126 {v0 v1 v2 : Int} (hk : kd v0 = 11) (h8 : am_w8 S = true) : wp m (CALL 126 3 x y z :: is) L (aI v2 :: aP v1 :: aP v0 :: S) (sT h) Q ↔ wp 126 (am_ju 126 0) [aP v0, aP v1, aI v2, aX, aX, aX, aX, aX, aX, aX] [] (sT h) (fun r s' => wp m is L (am_pu r S) s' Q) := r_CALL (m' := 126) (As := [aP v0, aP v1, aI v2]) rfl rfl rfl h8 (by show (true && (false || (true && am_is (sT h) v0 11))) = true; rw [show am_is (sT h) v0 11 = true from kd_is hk (by decide) h]; rfl)
theorem cl_127 {v0 : Int} (hk : kd v0 = 11) (h8 : am_w8 S = true) : wp m (CALL 127 1 x y z :: is) L (aP v0 :: S) (sT h) Q ↔ wp 127 (am_ju 127 0) [aP v0, aX] [] (sT h) (fun r s' => wp m is L (am_pu r S) s' Q) := r_CALL (m' := 127) (As := [aP v0]) rfl rfl rfl h8 (by show (true && (false || (true && am_is (sT h) v0 11))) = true; rw [show am_is (sT h) v0 11 = true from kd_is hk (by decide) h]; rfl)
theorem cl_128 {v0 v1 : Int} (hk : kd v0 = 5) (h8 : am_w8 S = true) : wp m (CALL 128 2 x y z :: is) L (aP v1 :: aP v0 :: S) (sT h) Q ↔ wp 128 (am_ju 128 0) [aP v0, aP v1] [] (sT h) (fun r s' => wp m is L (am_pu r S) s' Q) := r_CALL (m' := 128) (As := [aP v0, aP v1]) rfl rfl rfl h8 (by show (true && (false || (true && am_is (sT h) v0 5))) = true; rw [show am_is (sT h) v0 5 = true from kd_is hk (by decide) h]; rfl)
theorem cl_129 {v0 : Int} (hk : kd v0 = 10) (h8 : am_w8 S = true) : wp m (CALL 129 1 x y z :: is) L (aP v0 :: S) (sT h) Q ↔ wp 129 (am_ju 129 0) [aP v0] [] (sT h) (fun r s' => wp m is L (am_pu r S) s' Q) := r_CALL (m' := 129) (As := [aP v0]) rfl rfl rfl h8 (by show (true && (false || (true && am_is (sT h) v0 10))) = true; rw [show am_is (sT h) v0 10 = true from kd_is hk (by decide) h]; rfl)
theorem cl_130 {v0 : Int} (hk : kd v0 = 11) (h8 : am_w8 S = true) : wp m (CALL 130 1 x y z :: is) L (aP v0 :: S) (sT h) Q ↔ wp 130 (am_ju 130 0) [aP v0, aX, aX] [] (sT h) (fun r s' => wp m is L (am_pu r S) s' Q) := r_CALL (m' := 130) (As := [aP v0]) rfl rfl rfl h8 (by show (true && (false || (true && am_is (sT h) v0 11))) = true; rw [show am_is (sT h) v0 11 = true from kd_is hk (by decide) h]; rfl)
theorem cl_131 {v0 : Int} (hk : kd v0 = 10) (h8 : am_w8 S = true) : wp m (CALL 131 1 x y z :: is) L (aP v0 :: S) (sT h) Q ↔ wp 131 (am_ju 131 0) [aP v0, aX] [] (sT h) (fun r s' => wp m is L (am_pu r S) s' Q) := r_CALL (m' := 131) (As := [aP v0]) rfl rfl rfl h8 (by show (true && (false || (true && am_is (sT h) v0 10))) = true; rw [show am_is (sT h) v0 10 = true from kd_is hk (by decide) h]; rfl)
theorem cl_132 {v0 : Int} (hk : kd v0 = 11) (h8 : am_w8 S = true) : wp m (CALL 132 1 x y z :: is) L (aP v0 :: S) (sT h) Q ↔ wp 132 (am_ju 132 0) [aP v0, aX] [] (sT h) (fun r s' => wp m is L (am_pu r S) s' Q) := r_CALL (m' := 132) (As := [aP v0]) rfl rfl rfl h8 (by show (true && (false || (true && am_is (sT h) v0 11))) = true; rw [show am_is (sT h) v0 11 = true from kd_is hk (by decide) h]; rfl)
theorem cl_133 {v0 v1 : Int} (hk : kd v0 = 10) (h8 : am_w8 S = true) : wp m (CALL 133 2 x y z :: is) L (aI v1 :: aP v0 :: S) (sT h) Q ↔ wp 133 (am_ju 133 0) [aP v0, aI v1, aX] [] (sT h) (fun r s' => wp m is L (am_pu r S) s' Q) := r_CALL (m' := 133) (As := [aP v0, aI v1]) rfl rfl rfl h8 (by show (true && (false || (true && am_is (sT h) v0 10))) = true; rw [show am_is (sT h) v0 10 = true from kd_is hk (by decide) h]; rfl)
theorem cl_134 {v0 v1 : Int} (hk : kd v0 = 11) (h8 : am_w8 S = true) : wp m (CALL 134 2 x y z :: is) L (aI v1 :: aP v0 :: S) (sT h) Q ↔ wp 134 (am_ju 134 0) [aP v0, aI v1, aX] [] (sT h) (fun r s' => wp m is L (am_pu r S) s' Q) := r_CALL (m' := 134) (As := [aP v0, aI v1]) rfl rfl rfl h8 (by show (true && (false || (true && am_is (sT h) v0 11))) = true; rw [show am_is (sT h) v0 11 = true from kd_is hk (by decide) h]; rfl)
theorem cl_135 {v0 v1 v2 v3 : Int} (hk : kd v0 = 0) (h8 : am_w8 S = true) : wp m (CALL 135 4 x y z :: is) L (aI v3 :: aI v2 :: aP v1 :: aP v0 :: S) (sT h) Q ↔ wp 135 (am_ju 135 0) [aP v0, aP v1, aI v2, aI v3, aX, aX] [] (sT h) (fun r s' => wp m is L (am_pu r S) s' Q) := r_CALL (m' := 135) (As := [aP v0, aP v1, aI v2, aI v3]) rfl rfl rfl h8 (by show (true && (false || (true && am_is (sT h) v0 0))) = true; rw [show am_is (sT h) v0 0 = true from kd_is hk (by decide) h]; rfl)
theorem cl_136 {v0 v1 v2 : Int} (hk : kd v0 = 4) (h8 : am_w8 S = true) : wp m (CALL 136 3 x y z :: is) L (aI v2 :: aI v1 :: aP v0 :: S) (sT h) Q ↔ wp 136 (am_ju 136 0) [aP v0, aI v1, aI v2, aX, aX] [] (sT h) (fun r s' => wp m is L (am_pu r S) s' Q) := r_CALL (m' := 136) (As := [aP v0, aI v1, aI v2]) rfl rfl rfl h8 (by show (true && (false || (true && am_is (sT h) v0 4))) = true; rw [show am_is (sT h) v0 4 = true from kd_is hk (by decide) h]; rfl)
theorem cl_137 {v0 : Int} (h8 : am_w8 S = true) : wp m (CALL 137 1 x y z :: is) L (aI v0 :: S) (sT h) Q ↔ wp 137 (am_ju 137 0) [aI v0] [] (sT h) (fun r s' => wp m is L (am_pu r S) s' Q) := r_CALL (m' := 137) (As := [aI v0]) rfl rfl rfl h8 rfl
theorem cl_138 {v0 v1 : Int} (hk : kd v0 = 10) (h8 : am_w8 S = true) : wp m (CALL 138 2 x y z :: is) L (aI v1 :: aP v0 :: S) (sT h) Q ↔ wp 138 (am_ju 138 0) [aP v0, aI v1] [] (sT h) (fun r s' => wp m is L (am_pu r S) s' Q) := r_CALL (m' := 138) (As := [aP v0, aI v1]) rfl rfl rfl h8 (by show (true && (false || (true && am_is (sT h) v0 10))) = true; rw [show am_is (sT h) v0 10 = true from kd_is hk (by decide) h]; rfl)
theorem cl_139 {v0 v1 : Int} (hk : kd v0 = 11) (h8 : am_w8 S = true) : wp m (CALL 139 2 x y z :: is) L (aI v1 :: aP v0 :: S) (sT h) Q ↔ wp 139 (am_ju 139 0) [aP v0, aI v1] [] (sT h) (fun r s' => wp m is L (am_pu r S) s' Q) := r_CALL (m' := 139) (As := [aP v0, aI v1]) rfl rfl rfl h8 (by show (true && (false || (true && am_is (sT h) v0 11))) = true; rw [show am_is (sT h) v0 11 = true from kd_is hk (by decide) h]; rfl)
theorem cl_140 {v0 v1 : Int} (hk : kd v0 = 11) (h8 : am_w8 S = true) : wp m (CALL 140 2 x y z :: is) L (aI v1 :: aP v0 :: S) (sT h) Q ↔ wp 140 (am_ju 140 0) [aP v0, aI v1] [] (sT h) (fun r s' => wp m is L (am_pu r S) s' Q) := r_CALL (m' := 140) (As := [aP v0, aI v1]) rfl rfl rfl h8 (by show (true && (false || (true && am_is (sT h) v0 11))) = true; rw [show am_is (sT h) v0 11 = true from kd_is hk (by decide) h]; rfl)
theorem cl_141 {v0 v1 : Int} (hk : kd v0 = 11) (h8 : am_w8 S = true) : wp m (CALL 141 2 x y z :: is) L (aI v1 :: aP v0 :: S) (sT h) Q ↔ wp 141 (am_ju 141 0) [aP v0, aI v1] [] (sT h) (fun r s' => wp m is L (am_pu r S) s' Q) := r_CALL (m' := 141) (As := [aP v0, aI v1]) rfl rfl rfl h8 (by show (true && (false || (true && am_is (sT h) v0 11))) = true; rw [show am_is (sT h) v0 11 = true from kd_is hk (by decide) h]; rfl)
theorem cl_142 {v0 : Int} (hk : kd v0 = 0) (h8 : am_w8 S = true) : wp m (CALL 142 1 x y z :: is) L (aP v0 :: S) (sT h) Q ↔ wp 142 (am_ju 142 0) [aP v0, aX] [] (sT h) (fun r s' => wp m is L (am_pu r S) s' Q) := r_CALL (m' := 142) (As := [aP v0]) rfl rfl rfl h8 (by show (true && (false || (true && am_is (sT h) v0 0))) = true; rw [show am_is (sT h) v0 0 = true from kd_is hk (by decide) h]; rfl)
theorem cl_143 {v0 v1 : Int} (hk : kd v0 = 4) (h8 : am_w8 S = true) : wp m (CALL 143 2 x y z :: is) L (aI v1 :: aP v0 :: S) (sT h) Q ↔ wp 143 (am_ju 143 0) [aP v0, aI v1, aX, aX, aX] [] (sT h) (fun r s' => wp m is L (am_pu r S) s' Q) := r_CALL (m' := 143) (As := [aP v0, aI v1]) rfl rfl rfl h8 (by show (true && (false || (true && am_is (sT h) v0 4))) = true; rw [show am_is (sT h) v0 4 = true from kd_is hk (by decide) h]; rfl)
theorem cl_144 {v0 : Int} (hk : kd v0 = 4) (h8 : am_w8 S = true) : wp m (CALL 144 1 x y z :: is) L (aP v0 :: S) (sT h) Q ↔ wp 144 (am_ju 144 0) [aP v0, aX, aX, aX] [] (sT h) (fun r s' => wp m is L (am_pu r S) s' Q) := r_CALL (m' := 144) (As := [aP v0]) rfl rfl rfl h8 (by show (true && (false || (true && am_is (sT h) v0 4))) = true; rw [show am_is (sT h) v0 4 = true from kd_is hk (by decide) h]; rfl)
theorem cl_145 {v0 v1 : Int} (hk : kd v0 = 10) (h8 : am_w8 S = true) : wp m (CALL 145 2 x y z :: is) L (aI v1 :: aP v0 :: S) (sT h) Q ↔ wp 145 (am_ju 145 0) [aP v0, aI v1, aX, aX, aX] [] (sT h) (fun r s' => wp m is L (am_pu r S) s' Q) := r_CALL (m' := 145) (As := [aP v0, aI v1]) rfl rfl rfl h8 (by show (true && (false || (true && am_is (sT h) v0 10))) = true; rw [show am_is (sT h) v0 10 = true from kd_is hk (by decide) h]; rfl)
theorem cl_146 {v0 v1 : Int} (hk : kd v0 = 11) (h8 : am_w8 S = true) : wp m (CALL 146 2 x y z :: is) L (aI v1 :: aP v0 :: S) (sT h) Q ↔ wp 146 (am_ju 146 0) [aP v0, aI v1, aX, aX] [] (sT h) (fun r s' => wp m is L (am_pu r S) s' Q) := r_CALL (m' := 146) (As := [aP v0, aI v1]) rfl rfl rfl h8 (by show (true && (false || (true && am_is (sT h) v0 11))) = true; rw [show am_is (sT h) v0 11 = true from kd_is hk (by decide) h]; rfl)
theorem cl_147 {v0 v1 : Int} (hk : kd v0 = 11) (h8 : am_w8 S = true) : wp m (CALL 147 2 x y z :: is) L (aI v1 :: aP v0 :: S) (sT h) Q ↔ wp 147 (am_ju 147 0) [aP v0, aI v1, aX, aX, aX, aX, aX, aX] [] (sT h) (fun r s' => wp m is L (am_pu r S) s' Q) := r_CALL (m' := 147) (As := [aP v0, aI v1]) rfl rfl rfl h8 (by show (true && (false || (true && am_is (sT h) v0 11))) = true; rw [show am_is (sT h) v0 11 = true from kd_is hk (by decide) h]; rfl)
theorem cl_148 {v0 : Int} (hk : kd v0 = 9) (h8 : am_w8 S = true) : wp m (CALL 148 1 x y z :: is) L (aP v0 :: S) (sT h) Q ↔ wp 148 (am_ju 148 0) [aP v0, aX] [] (sT h) (fun r s' => wp m is L (am_pu r S) s' Q) := r_CALL (m' := 148) (As := [aP v0]) rfl rfl rfl h8 (by show (true && (false || (true && am_is (sT h) v0 9))) = true; rw [show am_is (sT h) v0 9 = true from kd_is hk (by decide) h]; rfl)
theorem cl_149 {v0 : Int} (hk : kd v0 = 9) (h8 : am_w8 S = true) : wp m (CALL 149 1 x y z :: is) L (aP v0 :: S) (sT h) Q ↔ wp 149 (am_ju 149 0) [aP v0] [] (sT h) (fun r s' => wp m is L (am_pu r S) s' Q) := r_CALL (m' := 149) (As := [aP v0]) rfl rfl rfl h8 (by show (true && (false || (true && am_is (sT h) v0 9))) = true; rw [show am_is (sT h) v0 9 = true from kd_is hk (by decide) h]; rfl)
theorem cl_150 {v0 : Int} (hk : kd v0 = 4) (h8 : am_w8 S = true) : wp m (CALL 150 1 x y z :: is) L (aP v0 :: S) (sT h) Q ↔ wp 150 (am_ju 150 0) [aP v0, aX, aX] [] (sT h) (fun r s' => wp m is L (am_pu r S) s' Q) := r_CALL (m' := 150) (As := [aP v0]) rfl rfl rfl h8 (by show (true && (false || (true && am_is (sT h) v0 4))) = true; rw [show am_is (sT h) v0 4 = true from kd_is hk (by decide) h]; rfl)
theorem cl_151 {v0 v1 v2 v3 : Int} (hk : kd v0 = 4) (h8 : am_w8 S = true) : wp m (CALL 151 4 x y z :: is) L (aI v3 :: aI v2 :: aI v1 :: aP v0 :: S) (sT h) Q ↔ wp 151 (am_ju 151 0) [aP v0, aI v1, aI v2, aI v3] [] (sT h) (fun r s' => wp m is L (am_pu r S) s' Q) := r_CALL (m' := 151) (As := [aP v0, aI v1, aI v2, aI v3]) rfl rfl rfl h8 (by show (true && (false || (true && am_is (sT h) v0 4))) = true; rw [show am_is (sT h) v0 4 = true from kd_is hk (by decide) h]; rfl)
theorem cl_152 {v0 : Int} (hk : kd v0 = 4) (h8 : am_w8 S = true) : wp m (CALL 152 1 x y z :: is) L (aP v0 :: S) (sT h) Q ↔ wp 152 (am_ju 152 0) [aP v0, aX, aX, aX] [] (sT h) (fun r s' => wp m is L (am_pu r S) s' Q) := r_CALL (m' := 152) (As := [aP v0]) rfl rfl rfl h8 (by show (true && (false || (true && am_is (sT h) v0 4))) = true; rw [show am_is (sT h) v0 4 = true from kd_is hk (by decide) h]; rfl)
theorem cl_153 {v0 : Int} (hk : kd v0 = 4) (h8 : am_w8 S = true) : wp m (CALL 153 1 x y z :: is) L (aP v0 :: S) (sT h) Q ↔ wp 153 (am_ju 153 0) [aP v0, aX, aX, aX, aX] [] (sT h) (fun r s' => wp m is L (am_pu r S) s' Q) := r_CALL (m' := 153) (As := [aP v0]) rfl rfl rfl h8 (by show (true && (false || (true && am_is (sT h) v0 4))) = true; rw [show am_is (sT h) v0 4 = true from kd_is hk (by decide) h]; rfl)
theorem cl_154 {v0 v1 : Int} (hk : kd v0 = 4) (h8 : am_w8 S = true) : wp m (CALL 154 2 x y z :: is) L (aI v1 :: aP v0 :: S) (sT h) Q ↔ wp 154 (am_ju 154 0) [aP v0, aI v1, aX] [] (sT h) (fun r s' => wp m is L (am_pu r S) s' Q) := r_CALL (m' := 154) (As := [aP v0, aI v1]) rfl rfl rfl h8 (by show (true && (false || (true && am_is (sT h) v0 4))) = true; rw [show am_is (sT h) v0 4 = true from kd_is hk (by decide) h]; rfl)
theorem cl_155 {v0 : Int} (hk : kd v0 = 4) (h8 : am_w8 S = true) : wp m (CALL 155 1 x y z :: is) L (aP v0 :: S) (sT h) Q ↔ wp 155 (am_ju 155 0) [aP v0, aX, aX, aX, aX] [] (sT h) (fun r s' => wp m is L (am_pu r S) s' Q) := r_CALL (m' := 155) (As := [aP v0]) rfl rfl rfl h8 (by show (true && (false || (true && am_is (sT h) v0 4))) = true; rw [show am_is (sT h) v0 4 = true from kd_is hk (by decide) h]; rfl)
theorem cl_156 {v0 v1 : Int} (hk : kd v0 = 4) (h8 : am_w8 S = true) : wp m (CALL 156 2 x y z :: is) L (aI v1 :: aP v0 :: S) (sT h) Q ↔ wp 156 (am_ju 156 0) [aP v0, aI v1, aX] [] (sT h) (fun r s' => wp m is L (am_pu r S) s' Q) := r_CALL (m' := 156) (As := [aP v0, aI v1]) rfl rfl rfl h8 (by show (true && (false || (true && am_is (sT h) v0 4))) = true; rw [show am_is (sT h) v0 4 = true from kd_is hk (by decide) h]; rfl)
theorem cl_157 {v0 v1 : Int} (hk : kd v0 = 10) (h8 : am_w8 S = true) : wp m (CALL 157 2 x y z :: is) L (aI v1 :: aP v0 :: S) (sT h) Q ↔ wp 157 (am_ju 157 0) [aP v0, aI v1] [] (sT h) (fun r s' => wp m is L (am_pu r S) s' Q) := r_CALL (m' := 157) (As := [aP v0, aI v1]) rfl rfl rfl h8 (by show (true && (false || (true && am_is (sT h) v0 10))) = true; rw [show am_is (sT h) v0 10 = true from kd_is hk (by decide) h]; rfl)
theorem cl_158 {v0 : Int} (h8 : am_w8 S = true) : wp m (CALL 158 1 x y z :: is) L (aI v0 :: S) (sT h) Q ↔ wp 158 (am_ju 158 0) [aI v0, aX, aX] [] (sT h) (fun r s' => wp m is L (am_pu r S) s' Q) := r_CALL (m' := 158) (As := [aI v0]) rfl rfl rfl h8 rfl
theorem cl_159 {v0 v1 v2 : Int} (hk : kd v0 = 11) (h8 : am_w8 S = true) : wp m (CALL 159 3 x y z :: is) L (aI v2 :: aI v1 :: aP v0 :: S) (sT h) Q ↔ wp 159 (am_ju 159 0) [aP v0, aI v1, aI v2, aX, aX] [] (sT h) (fun r s' => wp m is L (am_pu r S) s' Q) := r_CALL (m' := 159) (As := [aP v0, aI v1, aI v2]) rfl rfl rfl h8 (by show (true && (false || (true && am_is (sT h) v0 11))) = true; rw [show am_is (sT h) v0 11 = true from kd_is hk (by decide) h]; rfl)
theorem cl_160 {v0 v1 v2 : Int} (hk : kd v0 = 11) (h8 : am_w8 S = true) : wp m (CALL 160 3 x y z :: is) L (aI v2 :: aI v1 :: aP v0 :: S) (sT h) Q ↔ wp 160 (am_ju 160 0) [aP v0, aI v1, aI v2, aX, aX] [] (sT h) (fun r s' => wp m is L (am_pu r S) s' Q) := r_CALL (m' := 160) (As := [aP v0, aI v1, aI v2]) rfl rfl rfl h8 (by show (true && (false || (true && am_is (sT h) v0 11))) = true; rw [show am_is (sT h) v0 11 = true from kd_is hk (by decide) h]; rfl)
theorem cl_161 {v0 v1 : Int} (hk : kd v0 = 11) (h8 : am_w8 S = true) : wp m (CALL 161 2 x y z :: is) L (aI v1 :: aP v0 :: S) (sT h) Q ↔ wp 161 (am_ju 161 0) [aP v0, aI v1, aX, aX, aX, aX, aX, aX] [] (sT h) (fun r s' => wp m is L (am_pu r S) s' Q) := r_CALL (m' := 161) (As := [aP v0, aI v1]) rfl rfl rfl h8 (by show (true && (false || (true && am_is (sT h) v0 11))) = true; rw [show am_is (sT h) v0 11 = true from kd_is hk (by decide) h]; rfl)
theorem cl_162 {v0 : Int} (hk : kd v0 = 4) (h8 : am_w8 S = true) : wp m (CALL 162 1 x y z :: is) L (aP v0 :: S) (sT h) Q ↔ wp 162 (am_ju 162 0) [aP v0, aX, aX, aX, aX] [] (sT h) (fun r s' => wp m is L (am_pu r S) s' Q) := r_CALL (m' := 162) (As := [aP v0]) rfl rfl rfl h8 (by show (true && (false || (true && am_is (sT h) v0 4))) = true; rw [show am_is (sT h) v0 4 = true from kd_is hk (by decide) h]; rfl)
theorem cl_163 {v0 : Int} (hk : kd v0 = 10) (h8 : am_w8 S = true) : wp m (CALL 163 1 x y z :: is) L (aP v0 :: S) (sT h) Q ↔ wp 163 (am_ju 163 0) [aP v0] [] (sT h) (fun r s' => wp m is L (am_pu r S) s' Q) := r_CALL (m' := 163) (As := [aP v0]) rfl rfl rfl h8 (by show (true && (false || (true && am_is (sT h) v0 10))) = true; rw [show am_is (sT h) v0 10 = true from kd_is hk (by decide) h]; rfl)
theorem cl_164 {v0 : Int} (hk : kd v0 = 11) (h8 : am_w8 S = true) : wp m (CALL 164 1 x y z :: is) L (aP v0 :: S) (sT h) Q ↔ wp 164 (am_ju 164 0) [aP v0, aX, aX, aX, aX] [] (sT h) (fun r s' => wp m is L (am_pu r S) s' Q) := r_CALL (m' := 164) (As := [aP v0]) rfl rfl rfl h8 (by show (true && (false || (true && am_is (sT h) v0 11))) = true; rw [show am_is (sT h) v0 11 = true from kd_is hk (by decide) h]; rfl)
theorem cl_165 {v0 v1 v2 : Int} (hk : kd v0 = 4) (h8 : am_w8 S = true) : wp m (CALL 165 3 x y z :: is) L (aI v2 :: aI v1 :: aP v0 :: S) (sT h) Q ↔ wp 165 (am_ju 165 0) [aP v0, aI v1, aI v2, aX, aX] [] (sT h) (fun r s' => wp m is L (am_pu r S) s' Q) := r_CALL (m' := 165) (As := [aP v0, aI v1, aI v2]) rfl rfl rfl h8 (by show (true && (false || (true && am_is (sT h) v0 4))) = true; rw [show am_is (sT h) v0 4 = true from kd_is hk (by decide) h]; rfl)
theorem cl_166 {v0 v1 : Int} (hk : kd v0 = 4) (h8 : am_w8 S = true) : wp m (CALL 166 2 x y z :: is) L (aI v1 :: aP v0 :: S) (sT h) Q ↔ wp 166 (am_ju 166 0) [aP v0, aI v1, aX, aX, aX] [] (sT h) (fun r s' => wp m is L (am_pu r S) s' Q) := r_CALL (m' := 166) (As := [aP v0, aI v1]) rfl rfl rfl h8 (by show (true && (false || (true && am_is (sT h) v0 4))) = true; rw [show am_is (sT h) v0 4 = true from kd_is hk (by decide) h]; rfl)
theorem cl_167 {v0 : Int} (hk : kd v0 = 4) (h8 : am_w8 S = true) : wp m (CALL 167 1 x y z :: is) L (aP v0 :: S) (sT h) Q ↔ wp 167 (am_ju 167 0) [aP v0, aX, aX] [] (sT h) (fun r s' => wp m is L (am_pu r S) s' Q) := r_CALL (m' := 167) (As := [aP v0]) rfl rfl rfl h8 (by show (true && (false || (true && am_is (sT h) v0 4))) = true; rw [show am_is (sT h) v0 4 = true from kd_is hk (by decide) h]; rfl)
theorem cl_168 {v0 v1 : Int} (hk : kd v0 = 10) (h8 : am_w8 S = true) : wp m (CALL 168 2 x y z :: is) L (aI v1 :: aP v0 :: S) (sT h) Q ↔ wp 168 (am_ju 168 0) [aP v0, aI v1, aX] [] (sT h) (fun r s' => wp m is L (am_pu r S) s' Q) := r_CALL (m' := 168) (As := [aP v0, aI v1]) rfl rfl rfl h8 (by show (true && (false || (true && am_is (sT h) v0 10))) = true; rw [show am_is (sT h) v0 10 = true from kd_is hk (by decide) h]; rfl)
theorem cl_169 {v0 v1 : Int} (hk : kd v0 = 11) (h8 : am_w8 S = true) : wp m (CALL 169 2 x y z :: is) L (aI v1 :: aP v0 :: S) (sT h) Q ↔ wp 169 (am_ju 169 0) [aP v0, aI v1, aX, aX] [] (sT h) (fun r s' => wp m is L (am_pu r S) s' Q) := r_CALL (m' := 169) (As := [aP v0, aI v1]) rfl rfl rfl h8 (by show (true && (false || (true && am_is (sT h) v0 11))) = true; rw [show am_is (sT h) v0 11 = true from kd_is hk (by decide) h]; rfl)
theorem cl_170 {v0 v1 : Int} (hk : kd v0 = 11) (h8 : am_w8 S = true) : wp m (CALL 170 2 x y z :: is) L (aI v1 :: aP v0 :: S) (sT h) Q ↔ wp 170 (am_ju 170 0) [aP v0, aI v1, aX] [] (sT h) (fun r s' => wp m is L (am_pu r S) s' Q) := r_CALL (m' := 170) (As := [aP v0, aI v1]) rfl rfl rfl h8 (by show (true && (false || (true && am_is (sT h) v0 11))) = true; rw [show am_is (sT h) v0 11 = true from kd_is hk (by decide) h]; rfl)
theorem cl_171 {v0 v1 : Int} (hk : kd v0 = 11) (h8 : am_w8 S = true) : wp m (CALL 171 2 x y z :: is) L (aI v1 :: aP v0 :: S) (sT h) Q ↔ wp 171 (am_ju 171 0) [aP v0, aI v1, aX, aX, aX, aX, aX] [] (sT h) (fun r s' => wp m is L (am_pu r S) s' Q) := r_CALL (m' := 171) (As := [aP v0, aI v1]) rfl rfl rfl h8 (by show (true && (false || (true && am_is (sT h) v0 11))) = true; rw [show am_is (sT h) v0 11 = true from kd_is hk (by decide) h]; rfl)
theorem cl_172 {v0 v1 : Int} (hk : kd v0 = 9) (h8 : am_w8 S = true) : wp m (CALL 172 2 x y z :: is) L (aI v1 :: aP v0 :: S) (sT h) Q ↔ wp 172 (am_ju 172 0) [aP v0, aI v1] [] (sT h) (fun r s' => wp m is L (am_pu r S) s' Q) := r_CALL (m' := 172) (As := [aP v0, aI v1]) rfl rfl rfl h8 (by show (true && (false || (true && am_is (sT h) v0 9))) = true; rw [show am_is (sT h) v0 9 = true from kd_is hk (by decide) h]; rfl)
theorem cl_173 {v0 v1 : Int} (hk : kd v0 = 8) (h8 : am_w8 S = true) : wp m (CALL 173 2 x y z :: is) L (aI v1 :: aP v0 :: S) (sT h) Q ↔ wp 173 (am_ju 173 0) [aP v0, aI v1, aX, aX, aX] [] (sT h) (fun r s' => wp m is L (am_pu r S) s' Q) := r_CALL (m' := 173) (As := [aP v0, aI v1]) rfl rfl rfl h8 (by show (true && (false || (true && am_is (sT h) v0 8))) = true; rw [show am_is (sT h) v0 8 = true from kd_is hk (by decide) h]; rfl)
theorem cl_174 {v0 v1 : Int} (hk : kd v0 = 9) (h8 : am_w8 S = true) : wp m (CALL 174 2 x y z :: is) L (aI v1 :: aP v0 :: S) (sT h) Q ↔ wp 174 (am_ju 174 0) [aP v0, aI v1] [] (sT h) (fun r s' => wp m is L (am_pu r S) s' Q) := r_CALL (m' := 174) (As := [aP v0, aI v1]) rfl rfl rfl h8 (by show (true && (false || (true && am_is (sT h) v0 9))) = true; rw [show am_is (sT h) v0 9 = true from kd_is hk (by decide) h]; rfl)
theorem cl_175 {v0 v1 : Int} (hk : kd v0 = 10) (h8 : am_w8 S = true) : wp m (CALL 175 2 x y z :: is) L (aI v1 :: aP v0 :: S) (sT h) Q ↔ wp 175 (am_ju 175 0) [aP v0, aI v1] [] (sT h) (fun r s' => wp m is L (am_pu r S) s' Q) := r_CALL (m' := 175) (As := [aP v0, aI v1]) rfl rfl rfl h8 (by show (true && (false || (true && am_is (sT h) v0 10))) = true; rw [show am_is (sT h) v0 10 = true from kd_is hk (by decide) h]; rfl)
theorem cl_176 {v0 v1 : Int} (hk : kd v0 = 11) (h8 : am_w8 S = true) : wp m (CALL 176 2 x y z :: is) L (aI v1 :: aP v0 :: S) (sT h) Q ↔ wp 176 (am_ju 176 0) [aP v0, aI v1] [] (sT h) (fun r s' => wp m is L (am_pu r S) s' Q) := r_CALL (m' := 176) (As := [aP v0, aI v1]) rfl rfl rfl h8 (by show (true && (false || (true && am_is (sT h) v0 11))) = true; rw [show am_is (sT h) v0 11 = true from kd_is hk (by decide) h]; rfl)
theorem cl_177 {v0 v1 : Int} (hk : kd v0 = 11) (h8 : am_w8 S = true) : wp m (CALL 177 2 x y z :: is) L (aI v1 :: aP v0 :: S) (sT h) Q ↔ wp 177 (am_ju 177 0) [aP v0, aI v1, aX, aX, aX, aX] [] (sT h) (fun r s' => wp m is L (am_pu r S) s' Q) := r_CALL (m' := 177) (As := [aP v0, aI v1]) rfl rfl rfl h8 (by show (true && (false || (true && am_is (sT h) v0 11))) = true; rw [show am_is (sT h) v0 11 = true from kd_is hk (by decide) h]; rfl)
theorem cl_178 {v0 v1 : Int} (hk : kd v0 = 11) (h8 : am_w8 S = true) : wp m (CALL 178 2 x y z :: is) L (aI v1 :: aP v0 :: S) (sT h) Q ↔ wp 178 (am_ju 178 0) [aP v0, aI v1] [] (sT h) (fun r s' => wp m is L (am_pu r S) s' Q) := r_CALL (m' := 178) (As := [aP v0, aI v1]) rfl rfl rfl h8 (by show (true && (false || (true && am_is (sT h) v0 11))) = true; rw [show am_is (sT h) v0 11 = true from kd_is hk (by decide) h]; rfl)
theorem cl_179 {v0 : Int} (hk : kd v0 = 9) (h8 : am_w8 S = true) : wp m (CALL 179 1 x y z :: is) L (aP v0 :: S) (sT h) Q ↔ wp 179 (am_ju 179 0) [aP v0, aX, aX] [] (sT h) (fun r s' => wp m is L (am_pu r S) s' Q) := r_CALL (m' := 179) (As := [aP v0]) rfl rfl rfl h8 (by show (true && (false || (true && am_is (sT h) v0 9))) = true; rw [show am_is (sT h) v0 9 = true from kd_is hk (by decide) h]; rfl)
theorem cl_180 {v0 : Int} (hk : kd v0 = 1) (h8 : am_w8 S = true) : wp m (CALL 180 1 x y z :: is) L (aP v0 :: S) (sT h) Q ↔ wp 180 (am_ju 180 0) [aP v0, aX, aX] [] (sT h) (fun r s' => wp m is L (am_pu r S) s' Q) := r_CALL (m' := 180) (As := [aP v0]) rfl rfl rfl h8 (by show (true && (false || (true && am_is (sT h) v0 1))) = true; rw [show am_is (sT h) v0 1 = true from kd_is hk (by decide) h]; rfl)
theorem cl_181 {v0 v1 v2 : Int} (hk : kd v0 = 1) (h8 : am_w8 S = true) : wp m (CALL 181 3 x y z :: is) L (aI v2 :: aI v1 :: aP v0 :: S) (sT h) Q ↔ wp 181 (am_ju 181 0) [aP v0, aI v1, aI v2, aX, aX] [] (sT h) (fun r s' => wp m is L (am_pu r S) s' Q) := r_CALL (m' := 181) (As := [aP v0, aI v1, aI v2]) rfl rfl rfl h8 (by show (true && (false || (true && am_is (sT h) v0 1))) = true; rw [show am_is (sT h) v0 1 = true from kd_is hk (by decide) h]; rfl)
theorem cl_182 {v0 v1 v2 : Int} (hk : kd v0 = 1) (h8 : am_w8 S = true) : wp m (CALL 182 3 x y z :: is) L (aI v2 :: aI v1 :: aP v0 :: S) (sT h) Q ↔ wp 182 (am_ju 182 0) [aP v0, aI v1, aI v2, aX] [] (sT h) (fun r s' => wp m is L (am_pu r S) s' Q) := r_CALL (m' := 182) (As := [aP v0, aI v1, aI v2]) rfl rfl rfl h8 (by show (true && (false || (true && am_is (sT h) v0 1))) = true; rw [show am_is (sT h) v0 1 = true from kd_is hk (by decide) h]; rfl)
theorem cl_183 {v0 : Int} (hk : kd v0 = 1) (h8 : am_w8 S = true) : wp m (CALL 183 1 x y z :: is) L (aP v0 :: S) (sT h) Q ↔ wp 183 (am_ju 183 0) [aP v0, aX, aX, aX, aX] [] (sT h) (fun r s' => wp m is L (am_pu r S) s' Q) := r_CALL (m' := 183) (As := [aP v0]) rfl rfl rfl h8 (by show (true && (false || (true && am_is (sT h) v0 1))) = true; rw [show am_is (sT h) v0 1 = true from kd_is hk (by decide) h]; rfl)
theorem cl_184 {v0 v1 : Int} (hk : kd v0 = 1) (h8 : am_w8 S = true) : wp m (CALL 184 2 x y z :: is) L (aI v1 :: aP v0 :: S) (sT h) Q ↔ wp 184 (am_ju 184 0) [aP v0, aI v1, aX] [] (sT h) (fun r s' => wp m is L (am_pu r S) s' Q) := r_CALL (m' := 184) (As := [aP v0, aI v1]) rfl rfl rfl h8 (by show (true && (false || (true && am_is (sT h) v0 1))) = true; rw [show am_is (sT h) v0 1 = true from kd_is hk (by decide) h]; rfl)
theorem cl_185 {v0 v1 : Int} (hk : kd v0 = 1) (h8 : am_w8 S = true) : wp m (CALL 185 2 x y z :: is) L (aI v1 :: aP v0 :: S) (sT h) Q ↔ wp 185 (am_ju 185 0) [aP v0, aI v1, aX, aX] [] (sT h) (fun r s' => wp m is L (am_pu r S) s' Q) := r_CALL (m' := 185) (As := [aP v0, aI v1]) rfl rfl rfl h8 (by show (true && (false || (true && am_is (sT h) v0 1))) = true; rw [show am_is (sT h) v0 1 = true from kd_is hk (by decide) h]; rfl)
theorem cl_186 {v0 v1 : Int} (hk : kd v0 = 10) (h8 : am_w8 S = true) : wp m (CALL 186 2 x y z :: is) L (aI v1 :: aP v0 :: S) (sT h) Q ↔ wp 186 (am_ju 186 0) [aP v0, aI v1] [] (sT h) (fun r s' => wp m is L (am_pu r S) s' Q) := r_CALL (m' := 186) (As := [aP v0, aI v1]) rfl rfl rfl h8 (by show (true && (false || (true && am_is (sT h) v0 10))) = true; rw [show am_is (sT h) v0 10 = true from kd_is hk (by decide) h]; rfl)
theorem cl_187 {v0 v1 v2 : Int} (hk : kd v0 = 11) (h8 : am_w8 S = true) : wp m (CALL 187 3 x y z :: is) L (aI v2 :: aI v1 :: aP v0 :: S) (sT h) Q ↔ wp 187 (am_ju 187 0) [aP v0, aI v1, aI v2, aX, aX, aX] [] (sT h) (fun r s' => wp m is L (am_pu r S) s' Q) := r_CALL (m' := 187) (As := [aP v0, aI v1, aI v2]) rfl rfl rfl h8 (by show (true && (false || (true && am_is (sT h) v0 11))) = true; rw [show am_is (sT h) v0 11 = true from kd_is hk (by decide) h]; rfl)
theorem cl_188 {v0 v1 : Int} (hk : kd v0 = 11) (h8 : am_w8 S = true) : wp m (CALL 188 2 x y z :: is) L (aI v1 :: aP v0 :: S) (sT h) Q ↔ wp 188 (am_ju 188 0) [aP v0, aI v1, aX, aX, aX, aX, aX] [] (sT h) (fun r s' => wp m is L (am_pu r S) s' Q) := r_CALL (m' := 188) (As := [aP v0, aI v1]) rfl rfl rfl h8 (by show (true && (false || (true && am_is (sT h) v0 11))) = true; rw [show am_is (sT h) v0 11 = true from kd_is hk (by decide) h]; rfl)
theorem cl_189 {v0 v1 : Int} (hk : kd v0 = 11) (h8 : am_w8 S = true) : wp m (CALL 189 2 x y z :: is) L (aI v1 :: aP v0 :: S) (sT h) Q ↔ wp 189 (am_ju 189 0) [aP v0, aI v1, aX, aX, aX, aX, aX] [] (sT h) (fun r s' => wp m is L (am_pu r S) s' Q) := r_CALL (m' := 189) (As := [aP v0, aI v1]) rfl rfl rfl h8 (by show (true && (false || (true && am_is (sT h) v0 11))) = true; rw [show am_is (sT h) v0 11 = true from kd_is hk (by decide) h]; rfl)
theorem cl_190 {v0 v1 v2 v3 : Int} (hk : kd v0 = 10) (h8 : am_w8 S = true) : wp m (CALL 190 4 x y z :: is) L (aI v3 :: aI v2 :: aI v1 :: aP v0 :: S) (sT h) Q ↔ wp 190 (am_ju 190 0) [aP v0, aI v1, aI v2, aI v3, aX, aX, aX, aX, aX] [] (sT h) (fun r s' => wp m is L (am_pu r S) s' Q) := r_CALL (m' := 190) (As := [aP v0, aI v1, aI v2, aI v3]) rfl rfl rfl h8 (by show (true && (false || (true && am_is (sT h) v0 10))) = true; rw [show am_is (sT h) v0 10 = true from kd_is hk (by decide) h]; rfl)
theorem cl_191 {v0 v1 v2 v3 : Int} (hk : kd v0 = 10) (h8 : am_w8 S = true) : wp m (CALL 191 4 x y z :: is) L (aI v3 :: aI v2 :: aI v1 :: aP v0 :: S) (sT h) Q ↔ wp 191 (am_ju 191 0) [aP v0, aI v1, aI v2, aI v3, aX, aX, aX, aX, aX, aX] [] (sT h) (fun r s' => wp m is L (am_pu r S) s' Q) := r_CALL (m' := 191) (As := [aP v0, aI v1, aI v2, aI v3]) rfl rfl rfl h8 (by show (true && (false || (true && am_is (sT h) v0 10))) = true; rw [show am_is (sT h) v0 10 = true from kd_is hk (by decide) h]; rfl)
theorem cl_192 {v0 v1 v2 v3 : Int} (hk : kd v0 = 11) (h8 : am_w8 S = true) : wp m (CALL 192 4 x y z :: is) L (aI v3 :: aI v2 :: aI v1 :: aP v0 :: S) (sT h) Q ↔ wp 192 (am_ju 192 0) [aP v0, aI v1, aI v2, aI v3, aX, aX, aX, aX] [] (sT h) (fun r s' => wp m is L (am_pu r S) s' Q) := r_CALL (m' := 192) (As := [aP v0, aI v1, aI v2, aI v3]) rfl rfl rfl h8 (by show (true && (false || (true && am_is (sT h) v0 11))) = true; rw [show am_is (sT h) v0 11 = true from kd_is hk (by decide) h]; rfl)
theorem cl_193 {v0 v1 v2 v3 : Int} (hk : kd v0 = 11) (h8 : am_w8 S = true) : wp m (CALL 193 4 x y z :: is) L (aI v3 :: aI v2 :: aI v1 :: aP v0 :: S) (sT h) Q ↔ wp 193 (am_ju 193 0) [aP v0, aI v1, aI v2, aI v3, aX, aX] [] (sT h) (fun r s' => wp m is L (am_pu r S) s' Q) := r_CALL (m' := 193) (As := [aP v0, aI v1, aI v2, aI v3]) rfl rfl rfl h8 (by show (true && (false || (true && am_is (sT h) v0 11))) = true; rw [show am_is (sT h) v0 11 = true from kd_is hk (by decide) h]; rfl)
theorem cl_194 {v0 v1 v2 : Int} (hk : kd v0 = 4) (h8 : am_w8 S = true) : wp m (CALL 194 3 x y z :: is) L (aI v2 :: aI v1 :: aP v0 :: S) (sT h) Q ↔ wp 194 (am_ju 194 0) [aP v0, aI v1, aI v2, aX, aX] [] (sT h) (fun r s' => wp m is L (am_pu r S) s' Q) := r_CALL (m' := 194) (As := [aP v0, aI v1, aI v2]) rfl rfl rfl h8 (by show (true && (false || (true && am_is (sT h) v0 4))) = true; rw [show am_is (sT h) v0 4 = true from kd_is hk (by decide) h]; rfl)
theorem cl_195 {v0 v1 v2 v3 : Int} (hk : kd v0 = 4) (h8 : am_w8 S = true) : wp m (CALL 195 4 x y z :: is) L (aI v3 :: aI v2 :: aI v1 :: aP v0 :: S) (sT h) Q ↔ wp 195 (am_ju 195 0) [aP v0, aI v1, aI v2, aI v3, aX] [] (sT h) (fun r s' => wp m is L (am_pu r S) s' Q) := r_CALL (m' := 195) (As := [aP v0, aI v1, aI v2, aI v3]) rfl rfl rfl h8 (by show (true && (false || (true && am_is (sT h) v0 4))) = true; rw [show am_is (sT h) v0 4 = true from kd_is hk (by decide) h]; rfl)
theorem cl_196 {v0 v1 v2 v3 : Int} (hk : kd v0 = 10) (h8 : am_w8 S = true) : wp m (CALL 196 4 x y z :: is) L (aI v3 :: aI v2 :: aI v1 :: aP v0 :: S) (sT h) Q ↔ wp 196 (am_ju 196 0) [aP v0, aI v1, aI v2, aI v3, aX, aX, aX, aX] [] (sT h) (fun r s' => wp m is L (am_pu r S) s' Q) := r_CALL (m' := 196) (As := [aP v0, aI v1, aI v2, aI v3]) rfl rfl rfl h8 (by show (true && (false || (true && am_is (sT h) v0 10))) = true; rw [show am_is (sT h) v0 10 = true from kd_is hk (by decide) h]; rfl)
theorem cl_197 {v0 v1 v2 v3 : Int} (hk : kd v0 = 11) (h8 : am_w8 S = true) : wp m (CALL 197 4 x y z :: is) L (aI v3 :: aI v2 :: aI v1 :: aP v0 :: S) (sT h) Q ↔ wp 197 (am_ju 197 0) [aP v0, aI v1, aI v2, aI v3] [] (sT h) (fun r s' => wp m is L (am_pu r S) s' Q) := r_CALL (m' := 197) (As := [aP v0, aI v1, aI v2, aI v3]) rfl rfl rfl h8 (by show (true && (false || (true && am_is (sT h) v0 11))) = true; rw [show am_is (sT h) v0 11 = true from kd_is hk (by decide) h]; rfl)
theorem cl_198 {v0 v1 v2 v3 : Int} (hk : kd v0 = 11) (h8 : am_w8 S = true) : wp m (CALL 198 4 x y z :: is) L (aI v3 :: aI v2 :: aI v1 :: aP v0 :: S) (sT h) Q ↔ wp 198 (am_ju 198 0) [aP v0, aI v1, aI v2, aI v3, aX, aX, aX, aX] [] (sT h) (fun r s' => wp m is L (am_pu r S) s' Q) := r_CALL (m' := 198) (As := [aP v0, aI v1, aI v2, aI v3]) rfl rfl rfl h8 (by show (true && (false || (true && am_is (sT h) v0 11))) = true; rw [show am_is (sT h) v0 11 = true from kd_is hk (by decide) h]; rfl)
theorem cl_199 {v0 v1 : Int} (hk : kd v0 = 5) (h8 : am_w8 S = true) : wp m (CALL 199 2 x y z :: is) L (aP v1 :: aP v0 :: S) (sT h) Q ↔ wp 199 (am_ju 199 0) [aP v0, aP v1, aX] [] (sT h) (fun r s' => wp m is L (am_pu r S) s' Q) := r_CALL (m' := 199) (As := [aP v0, aP v1]) rfl rfl rfl h8 (by show (true && (false || (true && am_is (sT h) v0 5))) = true; rw [show am_is (sT h) v0 5 = true from kd_is hk (by decide) h]; rfl)
theorem cl_200 {v0 v1 : Int} (hk : kd v0 = 9) (h8 : am_w8 S = true) : wp m (CALL 200 2 x y z :: is) L (aP v1 :: aP v0 :: S) (sT h) Q ↔ wp 200 (am_ju 200 0) [aP v0, aP v1] [] (sT h) (fun r s' => wp m is L (am_pu r S) s' Q) := r_CALL (m' := 200) (As := [aP v0, aP v1]) rfl rfl rfl h8 (by show (true && (false || (true && am_is (sT h) v0 9))) = true; rw [show am_is (sT h) v0 9 = true from kd_is hk (by decide) h]; rfl)
theorem cl_201 {v0 : Int} (hk : kd v0 = 10) (h8 : am_w8 S = true) : wp m (CALL 201 1 x y z :: is) L (aP v0 :: S) (sT h) Q ↔ wp 201 (am_ju 201 0) [aP v0] [] (sT h) (fun r s' => wp m is L (am_pu r S) s' Q) := r_CALL (m' := 201) (As := [aP v0]) rfl rfl rfl h8 (by show (true && (false || (true && am_is (sT h) v0 10))) = true; rw [show am_is (sT h) v0 10 = true from kd_is hk (by decide) h]; rfl)
theorem cl_202 {v0 : Int} (hk : kd v0 = 11) (h8 : am_w8 S = true) : wp m (CALL 202 1 x y z :: is) L (aP v0 :: S) (sT h) Q ↔ wp 202 (am_ju 202 0) [aP v0] [] (sT h) (fun r s' => wp m is L (am_pu r S) s' Q) := r_CALL (m' := 202) (As := [aP v0]) rfl rfl rfl h8 (by show (true && (false || (true && am_is (sT h) v0 11))) = true; rw [show am_is (sT h) v0 11 = true from kd_is hk (by decide) h]; rfl)
theorem cl_203 {v0 : Int} (hk : kd v0 = 10) (h8 : am_w8 S = true) : wp m (CALL 203 1 x y z :: is) L (aP v0 :: S) (sT h) Q ↔ wp 203 (am_ju 203 0) [aP v0] [] (sT h) (fun r s' => wp m is L (am_pu r S) s' Q) := r_CALL (m' := 203) (As := [aP v0]) rfl rfl rfl h8 (by show (true && (false || (true && am_is (sT h) v0 10))) = true; rw [show am_is (sT h) v0 10 = true from kd_is hk (by decide) h]; rfl)
theorem cl_204 {v0 : Int} (hk : kd v0 = 11) (h8 : am_w8 S = true) : wp m (CALL 204 1 x y z :: is) L (aP v0 :: S) (sT h) Q ↔ wp 204 (am_ju 204 0) [aP v0] [] (sT h) (fun r s' => wp m is L (am_pu r S) s' Q) := r_CALL (m' := 204) (As := [aP v0]) rfl rfl rfl h8 (by show (true && (false || (true && am_is (sT h) v0 11))) = true; rw [show am_is (sT h) v0 11 = true from kd_is hk (by decide) h]; rfl)
theorem cl_205 {v0 v1 : Int} (h8 : am_w8 S = true) : wp m (CALL 205 2 x y z :: is) L (aI v1 :: aI v0 :: S) (sT h) Q ↔ wp 205 (am_ju 205 0) [aI v0, aI v1] [] (sT h) (fun r s' => wp m is L (am_pu r S) s' Q) := r_CALL (m' := 205) (As := [aI v0, aI v1]) rfl rfl rfl h8 rfl
theorem cl_206 {v0 v1 v2 : Int} (hk : kd v0 = 6) (h8 : am_w8 S = true) : wp m (CALL 206 3 x y z :: is) L (aI v2 :: aI v1 :: aP v0 :: S) (sT h) Q ↔ wp 206 (am_ju 206 0) [aP v0, aI v1, aI v2] [] (sT h) (fun r s' => wp m is L (am_pu r S) s' Q) := r_CALL (m' := 206) (As := [aP v0, aI v1, aI v2]) rfl rfl rfl h8 (by show (true && (false || (true && am_is (sT h) v0 6))) = true; rw [show am_is (sT h) v0 6 = true from kd_is hk (by decide) h]; rfl)
theorem cl_207 {v0 v1 v2 v3 : Int} (hk : kd v0 = 6) (h8 : am_w8 S = true) : wp m (CALL 207 4 x y z :: is) L (aI v3 :: aI v2 :: aI v1 :: aP v0 :: S) (sT h) Q ↔ wp 207 (am_ju 207 0) [aP v0, aI v1, aI v2, aI v3] [] (sT h) (fun r s' => wp m is L (am_pu r S) s' Q) := r_CALL (m' := 207) (As := [aP v0, aI v1, aI v2, aI v3]) rfl rfl rfl h8 (by show (true && (false || (true && am_is (sT h) v0 6))) = true; rw [show am_is (sT h) v0 6 = true from kd_is hk (by decide) h]; rfl)
theorem cl_208 {v0 v1 : Int} (hk : kd v0 = 6) (h8 : am_w8 S = true) : wp m (CALL 208 2 x y z :: is) L (aI v1 :: aP v0 :: S) (sT h) Q ↔ wp 208 (am_ju 208 0) [aP v0, aI v1] [] (sT h) (fun r s' => wp m is L (am_pu r S) s' Q) := r_CALL (m' := 208) (As := [aP v0, aI v1]) rfl rfl rfl h8 (by show (true && (false || (true && am_is (sT h) v0 6))) = true; rw [show am_is (sT h) v0 6 = true from kd_is hk (by decide) h]; rfl)
theorem cl_209 {v0 v1 v2 v3 v4 v5 : Int} (hk : kd v0 = 4) (h8 : am_w8 S = true) : wp m (CALL 209 6 x y z :: is) L (aI v5 :: aI v4 :: aP v3 :: aI v2 :: aI v1 :: aP v0 :: S) (sT h) Q ↔ wp 209 (am_ju 209 0) [aP v0, aI v1, aI v2, aP v3, aI v4, aI v5, aX] [] (sT h) (fun r s' => wp m is L (am_pu r S) s' Q) := r_CALL (m' := 209) (As := [aP v0, aI v1, aI v2, aP v3, aI v4, aI v5]) rfl rfl rfl h8 (by show (true && (false || (true && am_is (sT h) v0 4))) = true; rw [show am_is (sT h) v0 4 = true from kd_is hk (by decide) h]; rfl)
theorem cl_210 {v0 v1 v2 v3 v4 v5 v6 : Int} (hk : kd v0 = 10) (h8 : am_w8 S = true) : wp m (CALL 210 7 x y z :: is) L (aI v6 :: aI v5 :: aI v4 :: aI v3 :: aI v2 :: aI v1 :: aP v0 :: S) (sT h) Q ↔ wp 210 (am_ju 210 0) [aP v0, aI v1, aI v2, aI v3, aI v4, aI v5, aI v6, aX, aX, aX, aX] [] (sT h) (fun r s' => wp m is L (am_pu r S) s' Q) := r_CALL (m' := 210) (As := [aP v0, aI v1, aI v2, aI v3, aI v4, aI v5, aI v6]) rfl rfl rfl h8 (by show (true && (false || (true && am_is (sT h) v0 10))) = true; rw [show am_is (sT h) v0 10 = true from kd_is hk (by decide) h]; rfl)
theorem cl_211 {v0 : Int} (h8 : am_w8 S = true) : wp m (CALL 211 1 x y z :: is) L (aI v0 :: S) (sT h) Q ↔ wp 211 (am_ju 211 0) [aI v0] [] (sT h) (fun r s' => wp m is L (am_pu r S) s' Q) := r_CALL (m' := 211) (As := [aI v0]) rfl rfl rfl h8 rfl
theorem cl_212 {v0 : Int} (h8 : am_w8 S = true) : wp m (CALL 212 1 x y z :: is) L (aI v0 :: S) (sT h) Q ↔ wp 212 (am_ju 212 0) [aI v0] [] (sT h) (fun r s' => wp m is L (am_pu r S) s' Q) := r_CALL (m' := 212) (As := [aI v0]) rfl rfl rfl h8 rfl
theorem cl_213 {v0 v1 v2 v3 v4 : Int} (hk : kd v0 = 11) (h8 : am_w8 S = true) : wp m (CALL 213 5 x y z :: is) L (aI v4 :: aI v3 :: aI v2 :: aI v1 :: aP v0 :: S) (sT h) Q ↔ wp 213 (am_ju 213 0) [aP v0, aI v1, aI v2, aI v3, aI v4] [] (sT h) (fun r s' => wp m is L (am_pu r S) s' Q) := r_CALL (m' := 213) (As := [aP v0, aI v1, aI v2, aI v3, aI v4]) rfl rfl rfl h8 (by show (true && (false || (true && am_is (sT h) v0 11))) = true; rw [show am_is (sT h) v0 11 = true from kd_is hk (by decide) h]; rfl)
theorem cl_214 {v0 v1 v2 v3 v4 : Int} (hk : kd v0 = 11) (h8 : am_w8 S = true) : wp m (CALL 214 5 x y z :: is) L (aI v4 :: aI v3 :: aI v2 :: aI v1 :: aP v0 :: S) (sT h) Q ↔ wp 214 (am_ju 214 0) [aP v0, aI v1, aI v2, aI v3, aI v4, aX, aX] [] (sT h) (fun r s' => wp m is L (am_pu r S) s' Q) := r_CALL (m' := 214) (As := [aP v0, aI v1, aI v2, aI v3, aI v4]) rfl rfl rfl h8 (by show (true && (false || (true && am_is (sT h) v0 11))) = true; rw [show am_is (sT h) v0 11 = true from kd_is hk (by decide) h]; rfl)
theorem cl_215 {v0 v1 v2 v3 v4 v5 v6 : Int} (hk : kd v0 = 11) (h8 : am_w8 S = true) : wp m (CALL 215 7 x y z :: is) L (aI v6 :: aI v5 :: aI v4 :: aI v3 :: aI v2 :: aI v1 :: aP v0 :: S) (sT h) Q ↔ wp 215 (am_ju 215 0) [aP v0, aI v1, aI v2, aI v3, aI v4, aI v5, aI v6, aX, aX, aX, aX, aX] [] (sT h) (fun r s' => wp m is L (am_pu r S) s' Q) := r_CALL (m' := 215) (As := [aP v0, aI v1, aI v2, aI v3, aI v4, aI v5, aI v6]) rfl rfl rfl h8 (by show (true && (false || (true && am_is (sT h) v0 11))) = true; rw [show am_is (sT h) v0 11 = true from kd_is hk (by decide) h]; rfl)
theorem cl_216 {v0 v1 : Int} (hk : kd v0 = 4) (h8 : am_w8 S = true) : wp m (CALL 216 2 x y z :: is) L (aI v1 :: aP v0 :: S) (sT h) Q ↔ wp 216 (am_ju 216 0) [aP v0, aI v1, aX] [] (sT h) (fun r s' => wp m is L (am_pu r S) s' Q) := r_CALL (m' := 216) (As := [aP v0, aI v1]) rfl rfl rfl h8 (by show (true && (false || (true && am_is (sT h) v0 4))) = true; rw [show am_is (sT h) v0 4 = true from kd_is hk (by decide) h]; rfl)
theorem cl_217 {v0 v1 : Int} (hk : kd v0 = 6) (h8 : am_w8 S = true) : wp m (CALL 217 2 x y z :: is) L (aJ v1 :: aP v0 :: S) (sT h) Q ↔ wp 217 (am_ju 217 0) [aP v0, aJ v1, aX] [] (sT h) (fun r s' => wp m is L (am_pu r S) s' Q) := r_CALL (m' := 217) (As := [aP v0, aJ v1]) rfl rfl rfl h8 (by show (true && (false || (true && am_is (sT h) v0 6))) = true; rw [show am_is (sT h) v0 6 = true from kd_is hk (by decide) h]; rfl)
theorem cl_218 {v0 v1 v2 : Int} (hk : kd v0 = 6) (h8 : am_w8 S = true) : wp m (CALL 218 3 x y z :: is) L (aJ v2 :: aI v1 :: aP v0 :: S) (sT h) Q ↔ wp 218 (am_ju 218 0) [aP v0, aI v1, aJ v2, aX] [] (sT h) (fun r s' => wp m is L (am_pu r S) s' Q) := r_CALL (m' := 218) (As := [aP v0, aI v1, aJ v2]) rfl rfl rfl h8 (by show (true && (false || (true && am_is (sT h) v0 6))) = true; rw [show am_is (sT h) v0 6 = true from kd_is hk (by decide) h]; rfl)
theorem cl_219 {v0 v1 v2 v3 v4 : Int} (hk : kd v0 = 10) (h8 : am_w8 S = true) : wp m (CALL 219 5 x y z :: is) L (aI v4 :: aI v3 :: aI v2 :: aI v1 :: aP v0 :: S) (sT h) Q ↔ wp 219 (am_ju 219 0) [aP v0, aI v1, aI v2, aI v3, aI v4, aX, aX, aX] [] (sT h) (fun r s' => wp m is L (am_pu r S) s' Q) := r_CALL (m' := 219) (As := [aP v0, aI v1, aI v2, aI v3, aI v4]) rfl rfl rfl h8 (by show (true && (false || (true && am_is (sT h) v0 10))) = true; rw [show am_is (sT h) v0 10 = true from kd_is hk (by decide) h]; rfl)
theorem cl_220 {v0 v1 : Int} (h8 : am_w8 S = true) : wp m (CALL 220 2 x y z :: is) L (aJ v1 :: aI v0 :: S) (sT h) Q ↔ wp 220 (am_ju 220 0) [aI v0, aJ v1, aX, aX] [] (sT h) (fun r s' => wp m is L (am_pu r S) s' Q) := r_CALL (m' := 220) (As := [aI v0, aJ v1]) rfl rfl rfl h8 rfl
theorem cl_221 {v0 v1 v2 v3 v4 : Int} (hk : kd v0 = 11) (h8 : am_w8 S = true) : wp m (CALL 221 5 x y z :: is) L (aI v4 :: aI v3 :: aI v2 :: aI v1 :: aP v0 :: S) (sT h) Q ↔ wp 221 (am_ju 221 0) [aP v0, aI v1, aI v2, aI v3, aI v4, aX, aX, aX] [] (sT h) (fun r s' => wp m is L (am_pu r S) s' Q) := r_CALL (m' := 221) (As := [aP v0, aI v1, aI v2, aI v3, aI v4]) rfl rfl rfl h8 (by show (true && (false || (true && am_is (sT h) v0 11))) = true; rw [show am_is (sT h) v0 11 = true from kd_is hk (by decide) h]; rfl)
theorem cl_222 {v0 v1 : Int} (h8 : am_w8 S = true) : wp m (CALL 222 2 x y z :: is) L (aJ v1 :: aP v0 :: S) (sT h) Q ↔ wp 222 (am_ju 222 0) [aP v0, aJ v1, aX, aX, aX] [] (sT h) (fun r s' => wp m is L (am_pu r S) s' Q) := r_CALL (m' := 222) (As := [aP v0, aJ v1]) rfl rfl rfl h8 rfl
theorem cl_223 {v0 v1 v2 : Int} (hk : kd v0 = 6) (h8 : am_w8 S = true) : wp m (CALL 223 3 x y z :: is) L (aI v2 :: aI v1 :: aP v0 :: S) (sT h) Q ↔ wp 223 (am_ju 223 0) [aP v0, aI v1, aI v2] [] (sT h) (fun r s' => wp m is L (am_pu r S) s' Q) := r_CALL (m' := 223) (As := [aP v0, aI v1, aI v2]) rfl rfl rfl h8 (by show (true && (false || (true && am_is (sT h) v0 6))) = true; rw [show am_is (sT h) v0 6 = true from kd_is hk (by decide) h]; rfl)
theorem cl_224 {v0 v1 v2 v3 : Int} (hk : kd v0 = 10) (h8 : am_w8 S = true) : wp m (CALL 224 4 x y z :: is) L (aI v3 :: aI v2 :: aI v1 :: aP v0 :: S) (sT h) Q ↔ wp 224 (am_ju 224 0) [aP v0, aI v1, aI v2, aI v3] [] (sT h) (fun r s' => wp m is L (am_pu r S) s' Q) := r_CALL (m' := 224) (As := [aP v0, aI v1, aI v2, aI v3]) rfl rfl rfl h8 (by show (true && (false || (true && am_is (sT h) v0 10))) = true; rw [show am_is (sT h) v0 10 = true from kd_is hk (by decide) h]; rfl)
theorem cl_225 {v0 v1 v2 v3 : Int} (hk : kd v0 = 11) (h8 : am_w8 S = true) : wp m (CALL 225 4 x y z :: is) L (aI v3 :: aI v2 :: aI v1 :: aP v0 :: S) (sT h) Q ↔ wp 225 (am_ju 225 0) [aP v0, aI v1, aI v2, aI v3, aX] [] (sT h) (fun r s' => wp m is L (am_pu r S) s' Q) := r_CALL (m' := 225) (As := [aP v0, aI v1, aI v2, aI v3]) rfl rfl rfl h8 (by show (true && (false || (true && am_is (sT h) v0 11))) = true; rw [show am_is (sT h) v0 11 = true from kd_is hk (by decide) h]; rfl)
theorem cl_226 {v0 v1 : Int} (hk : kd v0 = 10) (h8 : am_w8 S = true) : wp m (CALL 226 2 x y z :: is) L (aI v1 :: aP v0 :: S) (sT h) Q ↔ wp 226 (am_ju 226 0) [aP v0, aI v1] [] (sT h) (fun r s' => wp m is L (am_pu r S) s' Q) := r_CALL (m' := 226) (As := [aP v0, aI v1]) rfl rfl rfl h8 (by show (true && (false || (true && am_is (sT h) v0 10))) = true; rw [show am_is (sT h) v0 10 = true from kd_is hk (by decide) h]; rfl)
theorem cl_227 {v0 v1 : Int} (hk : kd v0 = 11) (h8 : am_w8 S = true) : wp m (CALL 227 2 x y z :: is) L (aI v1 :: aP v0 :: S) (sT h) Q ↔ wp 227 (am_ju 227 0) [aP v0, aI v1] [] (sT h) (fun r s' => wp m is L (am_pu r S) s' Q) := r_CALL (m' := 227) (As := [aP v0, aI v1]) rfl rfl rfl h8 (by show (true && (false || (true && am_is (sT h) v0 11))) = true; rw [show am_is (sT h) v0 11 = true from kd_is hk (by decide) h]; rfl)
theorem cl_228 {v0 v1 v2 v3 v4 : Int} (hk : kd v0 = 10) (h8 : am_w8 S = true) : wp m (CALL 228 5 x y z :: is) L (aJ v4 :: aI v3 :: aI v2 :: aI v1 :: aP v0 :: S) (sT h) Q ↔ wp 228 (am_ju 228 0) [aP v0, aI v1, aI v2, aI v3, aJ v4, aX, aX] [] (sT h) (fun r s' => wp m is L (am_pu r S) s' Q) := r_CALL (m' := 228) (As := [aP v0, aI v1, aI v2, aI v3, aJ v4]) rfl rfl rfl h8 (by show (true && (false || (true && am_is (sT h) v0 10))) = true; rw [show am_is (sT h) v0 10 = true from kd_is hk (by decide) h]; rfl)
theorem cl_229 {v0 v1 v2 v3 v4 : Int} (hk : kd v0 = 11) (h8 : am_w8 S = true) : wp m (CALL 229 5 x y z :: is) L (aJ v4 :: aI v3 :: aI v2 :: aI v1 :: aP v0 :: S) (sT h) Q ↔ wp 229 (am_ju 229 0) [aP v0, aI v1, aI v2, aI v3, aJ v4, aX, aX] [] (sT h) (fun r s' => wp m is L (am_pu r S) s' Q) := r_CALL (m' := 229) (As := [aP v0, aI v1, aI v2, aI v3, aJ v4]) rfl rfl rfl h8 (by show (true && (false || (true && am_is (sT h) v0 11))) = true; rw [show am_is (sT h) v0 11 = true from kd_is hk (by decide) h]; rfl)
theorem cl_230 {v0 v1 v2 v3 v4 v5 : Int} (hk : kd v0 = 10) (h8 : am_w8 S = true) : wp m (CALL 230 6 x y z :: is) L (aI v5 :: aI v4 :: aI v3 :: aI v2 :: aI v1 :: aP v0 :: S) (sT h) Q ↔ wp 230 (am_ju 230 0) [aP v0, aI v1, aI v2, aI v3, aI v4, aI v5, aX, aX] [] (sT h) (fun r s' => wp m is L (am_pu r S) s' Q) := r_CALL (m' := 230) (As := [aP v0, aI v1, aI v2, aI v3, aI v4, aI v5]) rfl rfl rfl h8 (by show (true && (false || (true && am_is (sT h) v0 10))) = true; rw [show am_is (sT h) v0 10 = true from kd_is hk (by decide) h]; rfl)
theorem cl_231 {v0 v1 v2 v3 v4 v5 : Int} (hk : kd v0 = 11) (h8 : am_w8 S = true) : wp m (CALL 231 6 x y z :: is) L (aI v5 :: aI v4 :: aI v3 :: aI v2 :: aI v1 :: aP v0 :: S) (sT h) Q ↔ wp 231 (am_ju 231 0) [aP v0, aI v1, aI v2, aI v3, aI v4, aI v5, aX] [] (sT h) (fun r s' => wp m is L (am_pu r S) s' Q) := r_CALL (m' := 231) (As := [aP v0, aI v1, aI v2, aI v3, aI v4, aI v5]) rfl rfl rfl h8 (by show (true && (false || (true && am_is (sT h) v0 11))) = true; rw [show am_is (sT h) v0 11 = true from kd_is hk (by decide) h]; rfl)
end CLS
theorem kd_0 : kd 0 = 10 := by decide +kernel
theorem ln_0 : ln 0 = 11 := by decide +kernel
theorem kd_1 : kd 1 = 9 := by decide +kernel
theorem ln_1 : ln 1 = 4 := by decide +kernel
theorem kd_2 : kd 2 = 2 := by decide +kernel
theorem ln_2 : ln 2 = 8 := by decide +kernel
theorem kd_3 : kd 3 = 20 := by decide +kernel
theorem ln_3 : ln 3 = 3 := by decide +kernel
theorem kd_4 : kd 4 = 20 := by decide +kernel
theorem ln_4 : ln 4 = 8 := by decide +kernel
theorem kd_5 : kd 5 = 20 := by decide +kernel
theorem ln_5 : ln 5 = 8 := by decide +kernel
theorem kd_6 : kd 6 = 20 := by decide +kernel
theorem ln_6 : ln 6 = 8 := by decide +kernel
theorem kd_7 : kd 7 = 20 := by decide +kernel
theorem ln_7 : ln 7 = 8 := by decide +kernel
theorem kd_8 : kd 8 = 20 := by decide +kernel
theorem ln_8 : ln 8 = 8 := by decide +kernel
theorem kd_9 : kd 9 = 8 := by decide +kernel
theorem ln_9 : ln 9 = 2 := by decide +kernel
theorem kd_10 : kd 10 = 20 := by decide +kernel
theorem ln_10 : ln 10 = 20 := by decide +kernel
theorem kd_11 : kd 11 = 3 := by decide +kernel
theorem ln_11 : ln 11 = 6 := by decide +kernel
theorem kd_12 : kd 12 = 20 := by decide +kernel
theorem ln_12 : ln 12 = 3 := by decide +kernel
theorem kd_13 : kd 13 = 20 := by decide +kernel
theorem ln_13 : ln 13 = 3 := by decide +kernel
theorem kd_14 : kd 14 = 20 := by decide +kernel
theorem ln_14 : ln 14 = 3 := by decide +kernel
theorem kd_15 : kd 15 = 20 := by decide +kernel
theorem ln_15 : ln 15 = 8 := by decide +kernel
theorem kd_16 : kd 16 = 5 := by decide +kernel
theorem ln_16 : ln 16 = 3 := by decide +kernel
theorem kd_17 : kd 17 = 22 := by decide +kernel
theorem ln_17 : ln 17 = 8 := by decide +kernel
theorem kd_18 : kd 18 = 3 := by decide +kernel
theorem ln_18 : ln 18 = 6 := by decide +kernel
theorem kd_19 : kd 19 = 20 := by decide +kernel
theorem ln_19 : ln 19 = 3 := by decide +kernel
theorem kd_20 : kd 20 = 20 := by decide +kernel
theorem ln_20 : ln 20 = 3 := by decide +kernel
theorem kd_21 : kd 21 = 20 := by decide +kernel
theorem ln_21 : ln 21 = 3 := by decide +kernel
theorem kd_22 : kd 22 = 20 := by decide +kernel
theorem ln_22 : ln 22 = 8 := by decide +kernel
theorem kd_23 : kd 23 = 3 := by decide +kernel
theorem ln_23 : ln 23 = 6 := by decide +kernel
theorem kd_24 : kd 24 = 20 := by decide +kernel
theorem ln_24 : ln 24 = 3 := by decide +kernel
theorem kd_25 : kd 25 = 20 := by decide +kernel
theorem ln_25 : ln 25 = 3 := by decide +kernel
theorem kd_26 : kd 26 = 20 := by decide +kernel
theorem ln_26 : ln 26 = 3 := by decide +kernel
theorem kd_27 : kd 27 = 20 := by decide +kernel
theorem ln_27 : ln 27 = 8 := by decide +kernel
theorem kd_28 : kd 28 = 3 := by decide +kernel
theorem ln_28 : ln 28 = 6 := by decide +kernel
theorem kd_29 : kd 29 = 20 := by decide +kernel
theorem ln_29 : ln 29 = 3 := by decide +kernel
theorem kd_30 : kd 30 = 20 := by decide +kernel
theorem ln_30 : ln 30 = 3 := by decide +kernel
theorem kd_31 : kd 31 = 20 := by decide +kernel
theorem ln_31 : ln 31 = 3 := by decide +kernel
theorem kd_32 : kd 32 = 20 := by decide +kernel
theorem ln_32 : ln 32 = 8 := by decide +kernel
theorem kd_33 : kd 33 = 3 := by decide +kernel
theorem ln_33 : ln 33 = 6 := by decide +kernel
theorem kd_34 : kd 34 = 20 := by decide +kernel
theorem ln_34 : ln 34 = 3 := by decide +kernel
theorem kd_35 : kd 35 = 20 := by decide +kernel
theorem ln_35 : ln 35 = 3 := by decide +kernel
theorem kd_36 : kd 36 = 20 := by decide +kernel
theorem ln_36 : ln 36 = 3 := by decide +kernel
theorem kd_37 : kd 37 = 20 := by decide +kernel
theorem ln_37 : ln 37 = 8 := by decide +kernel
theorem kd_38 : kd 38 = 3 := by decide +kernel
theorem ln_38 : ln 38 = 6 := by decide +kernel
theorem kd_39 : kd 39 = 20 := by decide +kernel
theorem ln_39 : ln 39 = 3 := by decide +kernel
theorem kd_40 : kd 40 = 20 := by decide +kernel
theorem ln_40 : ln 40 = 3 := by decide +kernel
theorem kd_41 : kd 41 = 20 := by decide +kernel
theorem ln_41 : ln 41 = 3 := by decide +kernel
theorem kd_42 : kd 42 = 20 := by decide +kernel
theorem ln_42 : ln 42 = 8 := by decide +kernel
theorem kd_43 : kd 43 = 3 := by decide +kernel
theorem ln_43 : ln 43 = 6 := by decide +kernel
theorem kd_44 : kd 44 = 20 := by decide +kernel
theorem ln_44 : ln 44 = 3 := by decide +kernel
theorem kd_45 : kd 45 = 20 := by decide +kernel
theorem ln_45 : ln 45 = 3 := by decide +kernel
theorem kd_46 : kd 46 = 20 := by decide +kernel
theorem ln_46 : ln 46 = 3 := by decide +kernel
theorem kd_47 : kd 47 = 20 := by decide +kernel
theorem ln_47 : ln 47 = 8 := by decide +kernel
theorem kd_48 : kd 48 = 3 := by decide +kernel
theorem ln_48 : ln 48 = 6 := by decide +kernel
theorem kd_49 : kd 49 = 20 := by decide +kernel
theorem ln_49 : ln 49 = 3 := by decide +kernel
theorem kd_50 : kd 50 = 20 := by decide +kernel
theorem ln_50 : ln 50 = 3 := by decide +kernel
theorem kd_51 : kd 51 = 20 := by decide +kernel
theorem ln_51 : ln 51 = 3 := by decide +kernel
theorem kd_52 : kd 52 = 20 := by decide +kernel
theorem ln_52 : ln 52 = 8 := by decide +kernel
theorem kd_53 : kd 53 = 3 := by decide +kernel
theorem ln_53 : ln 53 = 6 := by decide +kernel
theorem kd_54 : kd 54 = 20 := by decide +kernel
theorem ln_54 : ln 54 = 3 := by decide +kernel
theorem kd_55 : kd 55 = 20 := by decide +kernel
theorem ln_55 : ln 55 = 3 := by decide +kernel
theorem kd_56 : kd 56 = 20 := by decide +kernel
theorem ln_56 : ln 56 = 3 := by decide +kernel
theorem kd_57 : kd 57 = 20 := by decide +kernel
theorem ln_57 : ln 57 = 8 := by decide +kernel
theorem kd_58 : kd 58 = 0 := by decide +kernel
theorem ln_58 : ln 58 = 8 := by decide +kernel
theorem kd_59 : kd 59 = 7 := by decide +kernel
theorem ln_59 : ln 59 = 3 := by decide +kernel
theorem kd_60 : kd 60 = 20 := by decide +kernel
theorem ln_60 : ln 60 = 100 := by decide +kernel
theorem kd_61 : kd 61 = 8 := by decide +kernel
theorem ln_61 : ln 61 = 2 := by decide +kernel
theorem kd_62 : kd 62 = 20 := by decide +kernel
theorem ln_62 : ln 62 = 20 := by decide +kernel
theorem kd_63 : kd 63 = 2 := by decide +kernel
theorem ln_63 : ln 63 = 8 := by decide +kernel
theorem kd_64 : kd 64 = 20 := by decide +kernel
theorem ln_64 : ln 64 = 3 := by decide +kernel
theorem kd_65 : kd 65 = 20 := by decide +kernel
theorem ln_65 : ln 65 = 8 := by decide +kernel
theorem kd_66 : kd 66 = 20 := by decide +kernel
theorem ln_66 : ln 66 = 8 := by decide +kernel
theorem kd_67 : kd 67 = 20 := by decide +kernel
theorem ln_67 : ln 67 = 8 := by decide +kernel
theorem kd_68 : kd 68 = 20 := by decide +kernel
theorem ln_68 : ln 68 = 8 := by decide +kernel
theorem kd_69 : kd 69 = 20 := by decide +kernel
theorem ln_69 : ln 69 = 8 := by decide +kernel
theorem kd_70 : kd 70 = 20 := by decide +kernel
theorem ln_70 : ln 70 = 8 := by decide +kernel
theorem kd_71 : kd 71 = 23 := by decide +kernel
theorem ln_71 : ln 71 = 4 := by decide +kernel
theorem kd_72 : kd 72 = 6 := by decide +kernel
theorem ln_72 : ln 72 = 4 := by decide +kernel
theorem kd_73 : kd 73 = 21 := by decide +kernel
theorem ln_73 : ln 73 = 24 := by decide +kernel
theorem kd_74 : kd 74 = 6 := by decide +kernel
theorem ln_74 : ln 74 = 4 := by decide +kernel
theorem kd_75 : kd 75 = 21 := by decide +kernel
theorem ln_75 : ln 75 = 24 := by decide +kernel
theorem kd_76 : kd 76 = 6 := by decide +kernel
theorem ln_76 : ln 76 = 4 := by decide +kernel
theorem kd_77 : kd 77 = 21 := by decide +kernel
theorem ln_77 : ln 77 = 24 := by decide +kernel
theorem kd_78 : kd 78 = 6 := by decide +kernel
theorem ln_78 : ln 78 = 4 := by decide +kernel
theorem kd_79 : kd 79 = 21 := by decide +kernel
theorem ln_79 : ln 79 = 24 := by decide +kernel
theorem kd_80 : kd 80 = 9 := by decide +kernel
theorem ln_80 : ln 80 = 4 := by decide +kernel
theorem kd_81 : kd 81 = 2 := by decide +kernel
theorem ln_81 : ln 81 = 8 := by decide +kernel
theorem kd_82 : kd 82 = 20 := by decide +kernel
theorem ln_82 : ln 82 = 3 := by decide +kernel
theorem kd_83 : kd 83 = 20 := by decide +kernel
theorem ln_83 : ln 83 = 8 := by decide +kernel
theorem kd_84 : kd 84 = 20 := by decide +kernel
theorem ln_84 : ln 84 = 8 := by decide +kernel
theorem kd_85 : kd 85 = 20 := by decide +kernel
theorem ln_85 : ln 85 = 8 := by decide +kernel
theorem kd_86 : kd 86 = 20 := by decide +kernel
theorem ln_86 : ln 86 = 8 := by decide +kernel
theorem kd_87 : kd 87 = 20 := by decide +kernel
theorem ln_87 : ln 87 = 8 := by decide +kernel
theorem kd_88 : kd 88 = 8 := by decide +kernel
theorem ln_88 : ln 88 = 2 := by decide +kernel
theorem kd_89 : kd 89 = 20 := by decide +kernel
theorem ln_89 : ln 89 = 20 := by decide +kernel
theorem kd_90 : kd 90 = 3 := by decide +kernel
theorem ln_90 : ln 90 = 6 := by decide +kernel
theorem kd_91 : kd 91 = 20 := by decide +kernel
theorem ln_91 : ln 91 = 3 := by decide +kernel
theorem kd_92 : kd 92 = 20 := by decide +kernel
theorem ln_92 : ln 92 = 3 := by decide +kernel
theorem kd_93 : kd 93 = 20 := by decide +kernel
theorem ln_93 : ln 93 = 3 := by decide +kernel
theorem kd_94 : kd 94 = 20 := by decide +kernel
theorem ln_94 : ln 94 = 8 := by decide +kernel
theorem kd_95 : kd 95 = 5 := by decide +kernel
theorem ln_95 : ln 95 = 3 := by decide +kernel
theorem kd_96 : kd 96 = 22 := by decide +kernel
theorem ln_96 : ln 96 = 8 := by decide +kernel
theorem kd_97 : kd 97 = 3 := by decide +kernel
theorem ln_97 : ln 97 = 6 := by decide +kernel
theorem kd_98 : kd 98 = 20 := by decide +kernel
theorem ln_98 : ln 98 = 3 := by decide +kernel
theorem kd_99 : kd 99 = 20 := by decide +kernel
theorem ln_99 : ln 99 = 3 := by decide +kernel
theorem kd_100 : kd 100 = 20 := by decide +kernel
theorem ln_100 : ln 100 = 3 := by decide +kernel
theorem kd_101 : kd 101 = 20 := by decide +kernel
theorem ln_101 : ln 101 = 8 := by decide +kernel
theorem kd_102 : kd 102 = 3 := by decide +kernel
theorem ln_102 : ln 102 = 6 := by decide +kernel
theorem kd_103 : kd 103 = 20 := by decide +kernel
theorem ln_103 : ln 103 = 3 := by decide +kernel
theorem kd_104 : kd 104 = 20 := by decide +kernel
theorem ln_104 : ln 104 = 3 := by decide +kernel
theorem kd_105 : kd 105 = 20 := by decide +kernel
theorem ln_105 : ln 105 = 3 := by decide +kernel
theorem kd_106 : kd 106 = 20 := by decide +kernel
theorem ln_106 : ln 106 = 8 := by decide +kernel
theorem kd_107 : kd 107 = 3 := by decide +kernel
theorem ln_107 : ln 107 = 6 := by decide +kernel
theorem kd_108 : kd 108 = 20 := by decide +kernel
theorem ln_108 : ln 108 = 3 := by decide +kernel
theorem kd_109 : kd 109 = 20 := by decide +kernel
theorem ln_109 : ln 109 = 3 := by decide +kernel
theorem kd_110 : kd 110 = 20 := by decide +kernel
theorem ln_110 : ln 110 = 3 := by decide +kernel
theorem kd_111 : kd 111 = 20 := by decide +kernel
theorem ln_111 : ln 111 = 8 := by decide +kernel
theorem kd_112 : kd 112 = 3 := by decide +kernel
theorem ln_112 : ln 112 = 6 := by decide +kernel
theorem kd_113 : kd 113 = 20 := by decide +kernel
theorem ln_113 : ln 113 = 3 := by decide +kernel
theorem kd_114 : kd 114 = 20 := by decide +kernel
theorem ln_114 : ln 114 = 3 := by decide +kernel
theorem kd_115 : kd 115 = 20 := by decide +kernel
theorem ln_115 : ln 115 = 3 := by decide +kernel
theorem kd_116 : kd 116 = 20 := by decide +kernel
theorem ln_116 : ln 116 = 8 := by decide +kernel
theorem kd_117 : kd 117 = 3 := by decide +kernel
theorem ln_117 : ln 117 = 6 := by decide +kernel
theorem kd_118 : kd 118 = 20 := by decide +kernel
theorem ln_118 : ln 118 = 3 := by decide +kernel
theorem kd_119 : kd 119 = 20 := by decide +kernel
theorem ln_119 : ln 119 = 3 := by decide +kernel
theorem kd_120 : kd 120 = 20 := by decide +kernel
theorem ln_120 : ln 120 = 3 := by decide +kernel
theorem kd_121 : kd 121 = 20 := by decide +kernel
theorem ln_121 : ln 121 = 8 := by decide +kernel
theorem kd_122 : kd 122 = 3 := by decide +kernel
theorem ln_122 : ln 122 = 6 := by decide +kernel
theorem kd_123 : kd 123 = 20 := by decide +kernel
theorem ln_123 : ln 123 = 3 := by decide +kernel
theorem kd_124 : kd 124 = 20 := by decide +kernel
theorem ln_124 : ln 124 = 3 := by decide +kernel
theorem kd_125 : kd 125 = 20 := by decide +kernel
theorem ln_125 : ln 125 = 3 := by decide +kernel
theorem kd_126 : kd 126 = 20 := by decide +kernel
theorem ln_126 : ln 126 = 8 := by decide +kernel
theorem kd_127 : kd 127 = 3 := by decide +kernel
theorem ln_127 : ln 127 = 6 := by decide +kernel
theorem kd_128 : kd 128 = 20 := by decide +kernel
theorem ln_128 : ln 128 = 3 := by decide +kernel
theorem kd_129 : kd 129 = 20 := by decide +kernel
theorem ln_129 : ln 129 = 3 := by decide +kernel
theorem kd_130 : kd 130 = 20 := by decide +kernel
theorem ln_130 : ln 130 = 3 := by decide +kernel
theorem kd_131 : kd 131 = 20 := by decide +kernel
theorem ln_131 : ln 131 = 8 := by decide +kernel
theorem kd_132 : kd 132 = 3 := by decide +kernel
theorem ln_132 : ln 132 = 6 := by decide +kernel
theorem kd_133 : kd 133 = 20 := by decide +kernel
theorem ln_133 : ln 133 = 3 := by decide +kernel
theorem kd_134 : kd 134 = 20 := by decide +kernel
theorem ln_134 : ln 134 = 3 := by decide +kernel
theorem kd_135 : kd 135 = 20 := by decide +kernel
theorem ln_135 : ln 135 = 3 := by decide +kernel
theorem kd_136 : kd 136 = 20 := by decide +kernel
theorem ln_136 : ln 136 = 8 := by decide +kernel
theorem kd_137 : kd 137 = 4 := by decide +kernel
theorem ln_137 : ln 137 = 10 := by decide +kernel
theorem kd_138 : kd 138 = 0 := by decide +kernel
theorem ln_138 : ln 138 = 8 := by decide +kernel
theorem kd_139 : kd 139 = 20 := by decide +kernel
theorem ln_139 : ln 139 = 20 := by decide +kernel
theorem kd_140 : kd 140 = 20 := by decide +kernel
theorem ln_140 : ln 140 = 20 := by decide +kernel
theorem kd_141 : kd 141 = 20 := by decide +kernel
theorem ln_141 : ln 141 = 6 := by decide +kernel
theorem kd_142 : kd 142 = 20 := by decide +kernel
theorem ln_142 : ln 142 = 192 := by decide +kernel
theorem kd_143 : kd 143 = 20 := by decide +kernel
theorem ln_143 : ln 143 = 6 := by decide +kernel
theorem kd_144 : kd 144 = 20 := by decide +kernel
theorem ln_144 : ln 144 = 6 := by decide +kernel
theorem kd_145 : kd 145 = 1 := by decide +kernel
theorem ln_145 : ln 145 = 5 := by decide +kernel
theorem kd_146 : kd 146 = 20 := by decide +kernel
theorem ln_146 : ln 146 = 6 := by decide +kernel
theorem kd_147 : kd 147 = 20 := by decide +kernel
theorem ln_147 : ln 147 = 6 := by decide +kernel
theorem kd_148 : kd 148 = 20 := by decide +kernel
theorem ln_148 : ln 148 = 64 := by decide +kernel
theorem kd_149 : kd 149 = 11 := by decide +kernel
theorem ln_149 : ln 149 = 19 := by decide +kernel
theorem kd_150 : kd 150 = 20 := by decide +kernel
theorem ln_150 : ln 150 = 238 := by decide +kernel
theorem kd_151 : kd 151 = 20 := by decide +kernel
theorem ln_151 : ln 151 = 238 := by decide +kernel
theorem kd_152 : kd 152 = 20 := by decide +kernel
theorem ln_152 : ln 152 = 238 := by decide +kernel
theorem kd_153 : kd 153 = 20 := by decide +kernel
theorem ln_153 : ln 153 = 238 := by decide +kernel
theorem kd_154 : kd 154 = 20 := by decide +kernel
theorem ln_154 : ln 154 = 100 := by decide +kernel
theorem kd_155 : kd 155 = 20 := by decide +kernel
theorem ln_155 : ln 155 = 4 := by decide +kernel
theorem kd_156 : kd 156 = 20 := by decide +kernel
theorem ln_156 : ln 156 = 4 := by decide +kernel
theorem kd_157 : kd 157 = 21 := by decide +kernel
theorem ln_157 : ln 157 = 96 := by decide +kernel
theorem kd_158 : kd 158 = 21 := by decide +kernel
theorem ln_158 : ln 158 = 24 := by decide +kernel
theorem kd_159 : kd 159 = 20 := by decide +kernel
theorem ln_159 : ln 159 = 6 := by decide +kernel
theorem kd_160 : kd 160 = 20 := by decide +kernel
theorem ln_160 : ln 160 = 6 := by decide +kernel
theorem kd_161 : kd 161 = 20 := by decide +kernel
theorem ln_161 : ln 161 = 6 := by decide +kernel
theorem rR_0_0 : rR 0 0 = 80 := by decide +kernel
theorem rR_0_1 : rR 0 1 = 1 := by decide +kernel
theorem rR_0_3 : rR 0 3 = 137 := by decide +kernel
theorem rR_0_4 : rR 0 4 = 145 := by decide +kernel
theorem rR_0_5 : rR 0 5 = 58 := by decide +kernel
theorem rR_0_6 : rR 0 6 = 59 := by decide +kernel
theorem rR_0_7 : rR 0 7 = 61 := by decide +kernel
theorem rR_0_8 : rR 0 8 = 63 := by decide +kernel
theorem rR_0_9 : rR 0 9 = 70 := by decide +kernel
theorem rR_0_10 : rR 0 10 = 71 := by decide +kernel
theorem rR_1_0 : rR 1 0 = 2 := by decide +kernel
theorem rR_1_1 : rR 1 1 = 9 := by decide +kernel
theorem rR_1_2 : rR 1 2 = 11 := by decide +kernel
theorem rR_1_3 : rR 1 3 = 16 := by decide +kernel
theorem rR_2_0 : rR 2 0 = 3 := by decide +kernel
theorem rR_2_1 : rR 2 1 = 4 := by decide +kernel
theorem rR_2_2 : rR 2 2 = 5 := by decide +kernel
theorem rR_2_3 : rR 2 3 = 6 := by decide +kernel
theorem rR_2_4 : rR 2 4 = 7 := by decide +kernel
theorem rR_2_5 : rR 2 5 = 8 := by decide +kernel
theorem rR_9_0 : rR 9 0 = 10 := by decide +kernel
theorem rR_11_0 : rR 11 0 = 12 := by decide +kernel
theorem rR_11_1 : rR 11 1 = 13 := by decide +kernel
theorem rR_11_2 : rR 11 2 = 14 := by decide +kernel
theorem rR_11_3 : rR 11 3 = 15 := by decide +kernel
theorem rR_16_0 : rR 16 0 = 17 := by decide +kernel
theorem rR_17_0 : rR 17 0 = 18 := by decide +kernel
theorem rR_17_1 : rR 17 1 = 23 := by decide +kernel
theorem rR_17_2 : rR 17 2 = 28 := by decide +kernel
theorem rR_17_3 : rR 17 3 = 33 := by decide +kernel
theorem rR_17_4 : rR 17 4 = 38 := by decide +kernel
theorem rR_17_5 : rR 17 5 = 43 := by decide +kernel
theorem rR_17_6 : rR 17 6 = 48 := by decide +kernel
theorem rR_17_7 : rR 17 7 = 53 := by decide +kernel
theorem rR_18_0 : rR 18 0 = 19 := by decide +kernel
theorem rR_18_1 : rR 18 1 = 20 := by decide +kernel
theorem rR_18_2 : rR 18 2 = 21 := by decide +kernel
theorem rR_18_3 : rR 18 3 = 22 := by decide +kernel
theorem rR_23_0 : rR 23 0 = 24 := by decide +kernel
theorem rR_23_1 : rR 23 1 = 25 := by decide +kernel
theorem rR_23_2 : rR 23 2 = 26 := by decide +kernel
theorem rR_23_3 : rR 23 3 = 27 := by decide +kernel
theorem rR_28_0 : rR 28 0 = 29 := by decide +kernel
theorem rR_28_1 : rR 28 1 = 30 := by decide +kernel
theorem rR_28_2 : rR 28 2 = 31 := by decide +kernel
theorem rR_28_3 : rR 28 3 = 32 := by decide +kernel
theorem rR_33_0 : rR 33 0 = 34 := by decide +kernel
theorem rR_33_1 : rR 33 1 = 35 := by decide +kernel
theorem rR_33_2 : rR 33 2 = 36 := by decide +kernel
theorem rR_33_3 : rR 33 3 = 37 := by decide +kernel
theorem rR_38_0 : rR 38 0 = 39 := by decide +kernel
theorem rR_38_1 : rR 38 1 = 40 := by decide +kernel
theorem rR_38_2 : rR 38 2 = 41 := by decide +kernel
theorem rR_38_3 : rR 38 3 = 42 := by decide +kernel
theorem rR_43_0 : rR 43 0 = 44 := by decide +kernel
theorem rR_43_1 : rR 43 1 = 45 := by decide +kernel
theorem rR_43_2 : rR 43 2 = 46 := by decide +kernel
theorem rR_43_3 : rR 43 3 = 47 := by decide +kernel
theorem rR_48_0 : rR 48 0 = 49 := by decide +kernel
theorem rR_48_1 : rR 48 1 = 50 := by decide +kernel
theorem rR_48_2 : rR 48 2 = 51 := by decide +kernel
theorem rR_48_3 : rR 48 3 = 52 := by decide +kernel
theorem rR_53_0 : rR 53 0 = 54 := by decide +kernel
theorem rR_53_1 : rR 53 1 = 55 := by decide +kernel
theorem rR_53_2 : rR 53 2 = 56 := by decide +kernel
theorem rR_53_3 : rR 53 3 = 57 := by decide +kernel
theorem rR_59_0 : rR 59 0 = 60 := by decide +kernel
theorem rR_61_0 : rR 61 0 = 62 := by decide +kernel
theorem rR_63_0 : rR 63 0 = 64 := by decide +kernel
theorem rR_63_1 : rR 63 1 = 65 := by decide +kernel
theorem rR_63_2 : rR 63 2 = 66 := by decide +kernel
theorem rR_63_3 : rR 63 3 = 67 := by decide +kernel
theorem rR_63_4 : rR 63 4 = 68 := by decide +kernel
theorem rR_63_5 : rR 63 5 = 69 := by decide +kernel
theorem rR_71_0 : rR 71 0 = 72 := by decide +kernel
theorem rR_71_1 : rR 71 1 = 74 := by decide +kernel
theorem rR_71_2 : rR 71 2 = 76 := by decide +kernel
theorem rR_71_3 : rR 71 3 = 78 := by decide +kernel
theorem rR_72_0 : rR 72 0 = 73 := by decide +kernel
theorem rR_74_0 : rR 74 0 = 75 := by decide +kernel
theorem rR_76_0 : rR 76 0 = 77 := by decide +kernel
theorem rR_78_0 : rR 78 0 = 79 := by decide +kernel
theorem rR_80_0 : rR 80 0 = 81 := by decide +kernel
theorem rR_80_1 : rR 80 1 = 88 := by decide +kernel
theorem rR_80_2 : rR 80 2 = 90 := by decide +kernel
theorem rR_80_3 : rR 80 3 = 95 := by decide +kernel
theorem rR_81_0 : rR 81 0 = 82 := by decide +kernel
theorem rR_81_1 : rR 81 1 = 83 := by decide +kernel
theorem rR_81_2 : rR 81 2 = 84 := by decide +kernel
theorem rR_81_3 : rR 81 3 = 85 := by decide +kernel
theorem rR_81_4 : rR 81 4 = 86 := by decide +kernel
theorem rR_81_5 : rR 81 5 = 87 := by decide +kernel
theorem rR_88_0 : rR 88 0 = 89 := by decide +kernel
theorem rR_90_0 : rR 90 0 = 91 := by decide +kernel
theorem rR_90_1 : rR 90 1 = 92 := by decide +kernel
theorem rR_90_2 : rR 90 2 = 93 := by decide +kernel
theorem rR_90_3 : rR 90 3 = 94 := by decide +kernel
theorem rR_95_0 : rR 95 0 = 96 := by decide +kernel
theorem rR_96_0 : rR 96 0 = 97 := by decide +kernel
theorem rR_96_1 : rR 96 1 = 102 := by decide +kernel
theorem rR_96_2 : rR 96 2 = 107 := by decide +kernel
theorem rR_96_3 : rR 96 3 = 112 := by decide +kernel
theorem rR_96_4 : rR 96 4 = 117 := by decide +kernel
theorem rR_96_5 : rR 96 5 = 122 := by decide +kernel
theorem rR_96_6 : rR 96 6 = 127 := by decide +kernel
theorem rR_96_7 : rR 96 7 = 132 := by decide +kernel
theorem rR_97_0 : rR 97 0 = 98 := by decide +kernel
theorem rR_97_1 : rR 97 1 = 99 := by decide +kernel
theorem rR_97_2 : rR 97 2 = 100 := by decide +kernel
theorem rR_97_3 : rR 97 3 = 101 := by decide +kernel
theorem rR_102_0 : rR 102 0 = 103 := by decide +kernel
theorem rR_102_1 : rR 102 1 = 104 := by decide +kernel
theorem rR_102_2 : rR 102 2 = 105 := by decide +kernel
theorem rR_102_3 : rR 102 3 = 106 := by decide +kernel
theorem rR_107_0 : rR 107 0 = 108 := by decide +kernel
theorem rR_107_1 : rR 107 1 = 109 := by decide +kernel
theorem rR_107_2 : rR 107 2 = 110 := by decide +kernel
theorem rR_107_3 : rR 107 3 = 111 := by decide +kernel
theorem rR_112_0 : rR 112 0 = 113 := by decide +kernel
theorem rR_112_1 : rR 112 1 = 114 := by decide +kernel
theorem rR_112_2 : rR 112 2 = 115 := by decide +kernel
theorem rR_112_3 : rR 112 3 = 116 := by decide +kernel
theorem rR_117_0 : rR 117 0 = 118 := by decide +kernel
theorem rR_117_1 : rR 117 1 = 119 := by decide +kernel
theorem rR_117_2 : rR 117 2 = 120 := by decide +kernel
theorem rR_117_3 : rR 117 3 = 121 := by decide +kernel
theorem rR_122_0 : rR 122 0 = 123 := by decide +kernel
theorem rR_122_1 : rR 122 1 = 124 := by decide +kernel
theorem rR_122_2 : rR 122 2 = 125 := by decide +kernel
theorem rR_122_3 : rR 122 3 = 126 := by decide +kernel
theorem rR_127_0 : rR 127 0 = 128 := by decide +kernel
theorem rR_127_1 : rR 127 1 = 129 := by decide +kernel
theorem rR_127_2 : rR 127 2 = 130 := by decide +kernel
theorem rR_127_3 : rR 127 3 = 131 := by decide +kernel
theorem rR_132_0 : rR 132 0 = 133 := by decide +kernel
theorem rR_132_1 : rR 132 1 = 134 := by decide +kernel
theorem rR_132_2 : rR 132 2 = 135 := by decide +kernel
theorem rR_132_3 : rR 132 3 = 136 := by decide +kernel
theorem rR_137_0 : rR 137 0 = 80 := by decide +kernel
theorem rR_137_1 : rR 137 1 = 138 := by decide +kernel
theorem rR_137_2 : rR 137 2 = 139 := by decide +kernel
theorem rR_137_3 : rR 137 3 = 140 := by decide +kernel
theorem rR_137_4 : rR 137 4 = 141 := by decide +kernel
theorem rR_137_6 : rR 137 6 = 142 := by decide +kernel
theorem rR_137_7 : rR 137 7 = 143 := by decide +kernel
theorem rR_137_8 : rR 137 8 = 144 := by decide +kernel
theorem rR_145_0 : rR 145 0 = 80 := by decide +kernel
theorem rR_145_1 : rR 145 1 = 146 := by decide +kernel
theorem rR_145_2 : rR 145 2 = 147 := by decide +kernel
theorem rR_145_4 : rR 145 4 = 148 := by decide +kernel
theorem rR_149_0 : rR 149 0 = 150 := by decide +kernel
theorem rR_149_1 : rR 149 1 = 151 := by decide +kernel
theorem rR_149_2 : rR 149 2 = 152 := by decide +kernel
theorem rR_149_3 : rR 149 3 = 153 := by decide +kernel
theorem rR_149_5 : rR 149 5 = 154 := by decide +kernel
theorem rR_149_7 : rR 149 7 = 155 := by decide +kernel
theorem rR_149_8 : rR 149 8 = 156 := by decide +kernel
theorem rR_149_9 : rR 149 9 = 157 := by decide +kernel
theorem rR_149_10 : rR 149 10 = 158 := by decide +kernel
theorem rR_149_16 : rR 149 16 = 159 := by decide +kernel
theorem rR_149_17 : rR 149 17 = 160 := by decide +kernel
theorem rR_149_18 : rR 149 18 = 161 := by decide +kernel
theorem kc_0 {c : Int} (hk : kd c = 0) : c ∈ ([58, 138] : List Int) := by
  obtain ⟨h1, h2, h3⟩ := am_is_iff.mp (kd_is hk (by decide) (fun _ _ => 0))
  obtain ⟨n, rfl⟩ := Int.eq_ofNat_of_zero_le h3
  have h1 : n < 162 := h1
  have hall : ∀ n : Nat, n < 162 → (am_lay (n : Int)).1 = 0 → (n : Int) ∈ ([58, 138] : List Int) := by decide +kernel
  exact hall n h1 h2
theorem kc_1 {c : Int} (hk : kd c = 1) : c ∈ ([145] : List Int) := by
  obtain ⟨h1, h2, h3⟩ := am_is_iff.mp (kd_is hk (by decide) (fun _ _ => 0))
  obtain ⟨n, rfl⟩ := Int.eq_ofNat_of_zero_le h3
  have h1 : n < 162 := h1
  have hall : ∀ n : Nat, n < 162 → (am_lay (n : Int)).1 = 1 → (n : Int) ∈ ([145] : List Int) := by decide +kernel
  exact hall n h1 h2
theorem kc_2 {c : Int} (hk : kd c = 2) : c ∈ ([2, 63, 81] : List Int) := by
  obtain ⟨h1, h2, h3⟩ := am_is_iff.mp (kd_is hk (by decide) (fun _ _ => 0))
  obtain ⟨n, rfl⟩ := Int.eq_ofNat_of_zero_le h3
  have h1 : n < 162 := h1
  have hall : ∀ n : Nat, n < 162 → (am_lay (n : Int)).1 = 2 → (n : Int) ∈ ([2, 63, 81] : List Int) := by decide +kernel
  exact hall n h1 h2
theorem kc_3 {c : Int} (hk : kd c = 3) : c ∈ ([11, 18, 23, 28, 33, 38, 43, 48, 53, 90, 97, 102, 107, 112, 117, 122, 127, 132] : List Int) := by
  obtain ⟨h1, h2, h3⟩ := am_is_iff.mp (kd_is hk (by decide) (fun _ _ => 0))
  obtain ⟨n, rfl⟩ := Int.eq_ofNat_of_zero_le h3
  have h1 : n < 162 := h1
  have hall : ∀ n : Nat, n < 162 → (am_lay (n : Int)).1 = 3 → (n : Int) ∈ ([11, 18, 23, 28, 33, 38, 43, 48, 53, 90, 97, 102, 107, 112, 117, 122, 127, 132] : List Int) := by decide +kernel
  exact hall n h1 h2
theorem kc_4 {c : Int} (hk : kd c = 4) : c ∈ ([137] : List Int) := by
  obtain ⟨h1, h2, h3⟩ := am_is_iff.mp (kd_is hk (by decide) (fun _ _ => 0))
  obtain ⟨n, rfl⟩ := Int.eq_ofNat_of_zero_le h3
  have h1 : n < 162 := h1
  have hall : ∀ n : Nat, n < 162 → (am_lay (n : Int)).1 = 4 → (n : Int) ∈ ([137] : List Int) := by decide +kernel
  exact hall n h1 h2
theorem kc_5 {c : Int} (hk : kd c = 5) : c ∈ ([16, 95] : List Int) := by
  obtain ⟨h1, h2, h3⟩ := am_is_iff.mp (kd_is hk (by decide) (fun _ _ => 0))
  obtain ⟨n, rfl⟩ := Int.eq_ofNat_of_zero_le h3
  have h1 : n < 162 := h1
  have hall : ∀ n : Nat, n < 162 → (am_lay (n : Int)).1 = 5 → (n : Int) ∈ ([16, 95] : List Int) := by decide +kernel
  exact hall n h1 h2
theorem kc_6 {c : Int} (hk : kd c = 6) : c ∈ ([72, 74, 76, 78] : List Int) := by
  obtain ⟨h1, h2, h3⟩ := am_is_iff.mp (kd_is hk (by decide) (fun _ _ => 0))
  obtain ⟨n, rfl⟩ := Int.eq_ofNat_of_zero_le h3
  have h1 : n < 162 := h1
  have hall : ∀ n : Nat, n < 162 → (am_lay (n : Int)).1 = 6 → (n : Int) ∈ ([72, 74, 76, 78] : List Int) := by decide +kernel
  exact hall n h1 h2
theorem kc_7 {c : Int} (hk : kd c = 7) : c ∈ ([59] : List Int) := by
  obtain ⟨h1, h2, h3⟩ := am_is_iff.mp (kd_is hk (by decide) (fun _ _ => 0))
  obtain ⟨n, rfl⟩ := Int.eq_ofNat_of_zero_le h3
  have h1 : n < 162 := h1
  have hall : ∀ n : Nat, n < 162 → (am_lay (n : Int)).1 = 7 → (n : Int) ∈ ([59] : List Int) := by decide +kernel
  exact hall n h1 h2
theorem kc_8 {c : Int} (hk : kd c = 8) : c ∈ ([9, 61, 88] : List Int) := by
  obtain ⟨h1, h2, h3⟩ := am_is_iff.mp (kd_is hk (by decide) (fun _ _ => 0))
  obtain ⟨n, rfl⟩ := Int.eq_ofNat_of_zero_le h3
  have h1 : n < 162 := h1
  have hall : ∀ n : Nat, n < 162 → (am_lay (n : Int)).1 = 8 → (n : Int) ∈ ([9, 61, 88] : List Int) := by decide +kernel
  exact hall n h1 h2
theorem kc_9 {c : Int} (hk : kd c = 9) : c ∈ ([1, 80] : List Int) := by
  obtain ⟨h1, h2, h3⟩ := am_is_iff.mp (kd_is hk (by decide) (fun _ _ => 0))
  obtain ⟨n, rfl⟩ := Int.eq_ofNat_of_zero_le h3
  have h1 : n < 162 := h1
  have hall : ∀ n : Nat, n < 162 → (am_lay (n : Int)).1 = 9 → (n : Int) ∈ ([1, 80] : List Int) := by decide +kernel
  exact hall n h1 h2
theorem kc_10 {c : Int} (hk : kd c = 10) : c ∈ ([0] : List Int) := by
  obtain ⟨h1, h2, h3⟩ := am_is_iff.mp (kd_is hk (by decide) (fun _ _ => 0))
  obtain ⟨n, rfl⟩ := Int.eq_ofNat_of_zero_le h3
  have h1 : n < 162 := h1
  have hall : ∀ n : Nat, n < 162 → (am_lay (n : Int)).1 = 10 → (n : Int) ∈ ([0] : List Int) := by decide +kernel
  exact hall n h1 h2
theorem kc_11 {c : Int} (hk : kd c = 11) : c ∈ ([149] : List Int) := by
  obtain ⟨h1, h2, h3⟩ := am_is_iff.mp (kd_is hk (by decide) (fun _ _ => 0))
  obtain ⟨n, rfl⟩ := Int.eq_ofNat_of_zero_le h3
  have h1 : n < 162 := h1
  have hall : ∀ n : Nat, n < 162 → (am_lay (n : Int)).1 = 11 → (n : Int) ∈ ([149] : List Int) := by decide +kernel
  exact hall n h1 h2
end
section
/-! Numbers: bits of small sets -/
theorem b01 (c : Prop) [Decidable c] : ((if c then (1 : Int) else 0) = 0) = ¬ c := by by_cases h : c <;> simp [h]
theorem r_zRETb {m : Nat} {is : List am_I} {L : List am_V} {st : am_S} {Q : am_V → am_S → Prop} {c : Prop} [Decidable c] : wp m (zRET :: is) L [aI (if c then 1 else 0)] st Q ↔ Q (aI (if c then 1 else 0)) st := r_zRET (by by_cases h : c <;> simp [h])
theorem r_zRET0 {m : Nat} {is : List am_I} {L : List am_V} {st : am_S} {Q : am_V → am_S → Prop} : wp m (zRET :: is) L [aI 0] st Q ↔ Q (aI 0) st := r_zRET (Or.inl rfl)
theorem r_zRET1 {m : Nat} {is : List am_I} {L : List am_V} {st : am_S} {Q : am_V → am_S → Prop} : wp m (zRET :: is) L [aI 1] st Q ↔ Q (aI 1) st := r_zRET (Or.inr rfl)
theorem oi_nI (n : Nat) : Int32.ofInt (n : Int) = nI n := Int32.ofInt_eq_ofNat
theorem bOr_n (a b : Nat) (ha : a < 2 ^ 31) (hb : b < 2 ^ 31) : bOr (a : Int) (b : Int) = ((a ||| b : Nat) : Int) := by
  have : nI a ||| nI b = nI (a ||| b) := by
    apply Int32.toBitVec_inj.mp
    rw [Int32.toBitVec_or]
    show BitVec.ofNat 32 a ||| BitVec.ofNat 32 b = BitVec.ofNat 32 (a ||| b)
    apply BitVec.eq_of_toNat_eq
    rw [BitVec.toNat_or, BitVec.toNat_ofNat, BitVec.toNat_ofNat, BitVec.toNat_ofNat, Nat.or_mod_two_pow]
  rw [bOr, oi_nI, oi_nI, this, nI_toInt (Nat.or_lt_two_pow ha hb)]
theorem bAnd_n (a b : Nat) (ha : a < 2 ^ 31) (hb : b < 2 ^ 31) : bAnd (a : Int) (b : Int) = ((a &&& b : Nat) : Int) := by
  have : nI a &&& nI b = nI (a &&& b) := by
    apply Int32.toBitVec_inj.mp
    rw [Int32.toBitVec_and]
    show BitVec.ofNat 32 a &&& BitVec.ofNat 32 b = BitVec.ofNat 32 (a &&& b)
    apply BitVec.eq_of_toNat_eq
    rw [BitVec.toNat_and, BitVec.toNat_ofNat, BitVec.toNat_ofNat, BitVec.toNat_ofNat, Nat.and_mod_two_pow]
  rw [bAnd, oi_nI, oi_nI, this, nI_toInt (Nat.and_lt_two_pow a hb)]
theorem nI_s31 : ∀ n, n < 32 → ((nI n &&& 31).toBitVec.smod 32).toNat = n := by decide +kernel
theorem bShl_n (a t : Nat) (ht : t < 31) (ha : a * 2 ^ t < 2 ^ 31) : bShl (a : Int) (t : Int) = ((a * 2 ^ t : Nat) : Int) := by
  rw [bShl, oi_nI, oi_nI, pk_shlN (nI t &&& 31) t (nI_s31 t (by omega)) (by omega), nI_toInt ha]
theorem bShr_n (a t : Nat) (ht : t < 31) (ha : a < 2 ^ 31) : bShr (a : Int) (t : Int) = ((a / 2 ^ t : Nat) : Int) := by
  rw [bShr, oi_nI, oi_nI, pk_shrN ha (nI t &&& 31) t (nI_s31 t (by omega)), nI_toInt (Nat.lt_of_le_of_lt (Nat.div_le_self _ _) ha)]
theorem bBit_n (a t : Nat) (ht : t < 31) (ha : a < 2 ^ 31) : bAnd (bShr (a : Int) (t : Int)) 1 = if a.testBit t = true then 1 else 0 := by
  rw [bShr_n a t ht ha, show (1 : Int) = ((1 : Nat) : Int) from rfl, bAnd_n _ _ (Nat.lt_of_le_of_lt (Nat.div_le_self _ _) ha) (by decide), Nat.and_one_is_mod, Nat.testBit_eq_decide_div_mod_eq]
  by_cases h : a / 2 ^ t % 2 = 1
  · simp [h]
  · have : a / 2 ^ t % 2 = 0 := by omega
    simp [this]
def setF (p : Nat → Bool) : Nat → Nat
  | 0 => 0
  | n + 1 => setF p n ||| (if p n then 2 ^ n else 0)
theorem setF_lt (p : Nat → Bool) (n : Nat) : setF p n < 2 ^ n := by
  induction n with
  | zero => simp [setF]
  | succ n ih =>
    rw [setF]
    refine Nat.or_lt_two_pow (Nat.lt_of_lt_of_le ih (Nat.pow_le_pow_right (by decide) (Nat.le_succ n))) ?_
    split
    · exact Nat.pow_lt_pow_right (by decide) (Nat.lt_succ_self n)
    · exact Nat.two_pow_pos _
theorem setF_bit (p : Nat → Bool) (n t : Nat) : (setF p n).testBit t = (decide (t < n) && p t) := by
  induction n with
  | zero => simp [setF]
  | succ n ih =>
    rw [setF, Nat.testBit_or, ih]
    by_cases hp : p n = true
    · rw [if_pos hp, Nat.testBit_two_pow]
      by_cases h : n = t
      · subst h; simp [hp]
      · have e : (decide (t < n + 1)) = decide (t < n) := by
          by_cases h2 : t < n
          · simp [h2]; omega
          · simp [h2]; omega
        simp [h, e]
    · rw [if_neg hp]
      by_cases h : n = t
      · subst h; simp [hp]
      · have e : (decide (t < n + 1)) = decide (t < n) := by
          by_cases h2 : t < n
          · simp [h2]; omega
          · simp [h2]; omega
        simp [e]
def sumF (f : Nat → Int) : Nat → Int
  | 0 => 0
  | n + 1 => sumF f n + f n
section T1
variable {h : am_F} {Q : am_V → am_S → Prop} {c d i j k n v w x : Int}
theorem s_isBelow : wp 12 (am_ju 12 0) [aI x, aI n] [] (sT h) Q ↔ Q (aI (if 0 ≤ x ∧ x < n then 1 else 0)) (sT h) := by
  simp only [ju_12_0, ju_12_7, ju_12_8, r_iLD0, r_IF2, r_iLD1, r_IC3, r_iCONST, r_GOTO, r_zRET, eq_self, Int.reduceLT, Int.reduceLE, Int.reduceEq, true_or, or_true, and_self, true_and, and_true, w8_0, w8_1, w8_2, w8_3, w8_4, nl_I, nl_P, nl_X, pu_I, pu_J, pu_V]
  by_cases h1 : x < 0
  · simp [h1, show ¬ 0 ≤ x by omega, r_zRET0]
  · by_cases h2 : n ≤ x
    · simp [h1, h2, show ¬ x < n by omega, r_zRET0]
    · simp [h1, h2, show 0 ≤ x by omega, show x < n by omega, r_zRET1]
theorem s_hasBag (hk : kd c = 2) : wp 28 (am_ju 28 0) [aP c, aI x] [] (sT h) Q ↔ Q (aI (if 0 ≤ x ∧ x < h c 6 then 1 else 0)) (sT h) := by
  simp only [ju_28_0, r_iLD1, r_aLD0, r_gI, cl_12, r_zRET, eq_self, Int.reduceLT, Int.reduceLE, Int.reduceEq, true_or, or_true, and_self, true_and, and_true, w8_0, w8_1, w8_2, w8_3, w8_4, nl_I, nl_P, nl_X, pu_I, pu_J, pu_V, hk, s_isBelow, r_zRETb]
theorem s_hasThing (hk : kd c = 2) : wp 27 (am_ju 27 0) [aP c, aI x] [] (sT h) Q ↔ Q (aI (if 0 ≤ x ∧ x < h c 7 then 1 else 0)) (sT h) := by
  simp only [ju_27_0, r_iLD1, r_aLD0, r_gI, cl_12, r_zRET, eq_self, Int.reduceLT, Int.reduceLE, Int.reduceEq, true_or, or_true, and_self, true_and, and_true, w8_0, w8_1, w8_2, w8_3, w8_4, nl_I, nl_P, nl_X, pu_I, pu_J, pu_V, hk, s_isBelow, r_zRETb]
theorem s_has {a t : Nat} (ha : a < 2 ^ 31) (ht : t < 31) : wp 29 (am_ju 29 0) [aI (a : Int), aI (t : Int)] [] (sT h) Q ↔ Q (aI (if a.testBit t = true then 1 else 0)) (sT h) := by
  simp only [ju_29_0, ju_29_8, ju_29_9, r_iLD0, r_iLD1, r_iSHR, r_iCONST, r_iAND, r_IF0, r_GOTO, r_zRET, eq_self, Int.reduceLT, Int.reduceLE, Int.reduceEq, true_or, or_true, and_self, true_and, and_true, w8_0, w8_1, w8_2, w8_3, w8_4, nl_I, nl_P, nl_X, pu_I, pu_J, pu_V, bBit_n a t ht ha, b01, r_zRET0, r_zRET1]
  by_cases hb : a.testBit t = true <;> simp [hb]
theorem lp_thingsAt {pl : Int} {n : Nat} (h8 : n ≤ 8) (hn : h 81 7 = (n : Int)) : ∀ (k t : Nat), t + k = n → (wp 39 (am_ju 39 4) [aP 80, aI pl, aI ((setF (fun t => decide (h 94 t = pl)) t : Nat) : Int), aI (t : Int)] [] (sT h) Q ↔ Q (aI ((setF (fun t => decide (h 94 t = pl)) n : Nat) : Int)) (sT h)) := by
  intro k
  induction k with
  | zero =>
    intro t ht
    have ht : t = n := by omega
    subst ht
    simp only [ju_39_4, ju_39_24, r_iCONST, r_iST2, r_iST3, r_iLD3, r_aLD0, r_gR, r_gI, r_IC3, r_iALD, r_iALDs, r_iLD1, r_IC1, r_iLD2, r_iSHL, r_iOR, r_IINC3, r_GOTO, r_iRET, eq_self, Int.reduceLT, Int.reduceLE, Int.reduceEq, true_or, or_true, and_self, true_and, and_true, w8_0, w8_1, w8_2, w8_3, w8_4, nl_I, nl_P, nl_X, pu_I, pu_J, pu_V, kd_80, ln_80, rR_80_0, rR_80_1, rR_80_2, rR_80_3, kd_81, ln_81, rR_81_0, rR_81_1, rR_81_2, rR_81_3, rR_81_4, rR_81_5, kd_90, ln_90, rR_90_0, rR_90_1, rR_90_2, rR_90_3, hn]
    rw [if_pos (by omega)]
  | succ k ih =>
    intro t ht
    rw [ju_39_4]
    simp only [ju_39_22, r_iCONST, r_iST2, r_iST3, r_iLD3, r_aLD0, r_gR, r_gI, r_IC3, r_iALD, r_iALDs, r_iLD1, r_IC1, r_iLD2, r_iSHL, r_iOR, r_IINC3, r_GOTO, r_iRET, eq_self, Int.reduceLT, Int.reduceLE, Int.reduceEq, true_or, or_true, and_self, true_and, and_true, w8_0, w8_1, w8_2, w8_3, w8_4, nl_I, nl_P, nl_X, pu_I, pu_J, pu_V, kd_80, ln_80, rR_80_0, rR_80_1, rR_80_2, rR_80_3, kd_81, ln_81, rR_81_0, rR_81_1, rR_81_2, rR_81_3, rR_81_4, rR_81_5, kd_90, ln_90, rR_90_0, rR_90_1, rR_90_2, rR_90_3, kd_94, ln_94, hn]
    rw [if_neg (by omega)]
    have hs : setF (fun t => decide (h 94 t = pl)) (t + 1) = setF (fun t => decide (h 94 t = pl)) t ||| (if decide (h 94 t = pl) = true then 2 ^ t else 0) := rfl
    have hlt := setF_lt (fun t => decide (h 94 t = pl)) t
    have h31 : 2 ^ t < 2 ^ 31 := Nat.pow_lt_pow_right (by decide) (by omega)
    refine (and_iff_right ⟨by omega, by omega⟩).trans ?_
    have ih := ih (t + 1) (by omega)
    rw [hs] at ih
    have hw : w3 ((t : Int) + 1) = ((t + 1 : Nat) : Int) := w3_id (by omega) (by omega)
    by_cases hp : h 94 t = pl
    · rw [if_neg (by simpa using hp), hw, show (1 : Int) = ((1 : Nat) : Int) from rfl, bShl_n 1 t (by omega) (by omega), Nat.one_mul, bOr_n _ _ (by omega) h31]
      simpa [hp] using ih
    · rw [if_pos hp, hw]
      simpa [hp] using ih
end T1
end
section
/-! One bag: its cell in a normal form, what its methods answer -/
def bw (h : am_F) (c k w r g S W D E : Int) : am_F := up (up (up (up (up (up (up (up h c 0 k) c 1 w) c 2 r) c 3 g) c 4 S) c 5 W) c 6 D) c 7 E
section BW
variable {h : am_F} {c c' x k w r g S W D E v : Int}
theorem bw_0 : bw h c k w r g S W D E c 0 = k := by simp [bw, up]
theorem bw_1 : bw h c k w r g S W D E c 1 = w := by simp [bw, up]
theorem bw_2 : bw h c k w r g S W D E c 2 = r := by simp [bw, up]
theorem bw_3 : bw h c k w r g S W D E c 3 = g := by simp [bw, up]
theorem bw_4 : bw h c k w r g S W D E c 4 = S := by simp [bw, up]
theorem bw_5 : bw h c k w r g S W D E c 5 = W := by simp [bw, up]
theorem bw_6 : bw h c k w r g S W D E c 6 = D := by simp [bw, up]
theorem bw_7 : bw h c k w r g S W D E c 7 = E := by simp [bw, up]
theorem bw_n (hk : kd c = 0) (hn : kd c' ≠ 0) : bw h c k w r g S W D E c' = h c' := by
  have : c' ≠ c := fun e => hn (e ▸ hk)
  funext x
  simp [bw, up, this]
theorem up_1 : up (bw h c k w r g S W D E) c 1 v = bw h c k v r g S W D E := by
  funext a b; simp only [bw, up]; (repeat' split) <;> first | rfl | omega
theorem up_2 : up (bw h c k w r g S W D E) c 2 v = bw h c k w v g S W D E := by
  funext a b; simp only [bw, up]; (repeat' split) <;> first | rfl | omega
theorem up_3 : up (bw h c k w r g S W D E) c 3 v = bw h c k w r v S W D E := by
  funext a b; simp only [bw, up]; (repeat' split) <;> first | rfl | omega
theorem up_4 : up (bw h c k w r g S W D E) c 4 v = bw h c k w r g v W D E := by
  funext a b; simp only [bw, up]; (repeat' split) <;> first | rfl | omega
theorem up_5 : up (bw h c k w r g S W D E) c 5 v = bw h c k w r g S v D E := by
  funext a b; simp only [bw, up]; (repeat' split) <;> first | rfl | omega
theorem up_6 : up (bw h c k w r g S W D E) c 6 v = bw h c k w r g S W v E := by
  funext a b; simp only [bw, up]; (repeat' split) <;> first | rfl | omega
theorem up_7 : up (bw h c k w r g S W D E) c 7 v = bw h c k w r g S W D v := by
  funext a b; simp only [bw, up]; (repeat' split) <;> first | rfl | omega
theorem up_0 : up (bw h c k w r g S W D E) c 0 v = bw h c v w r g S W D E := by
  funext a b; simp only [bw, up]; (repeat' split) <;> first | rfl | omega
end BW
theorem iDv_n {a b : Int} (ha : 0 ≤ a) (ha2 : a < 2147483648) (hb : 0 < b) (hb2 : b < 2147483648) : iDv a b = a / b := by
  obtain ⟨x, rfl⟩ := Int.eq_ofNat_of_zero_le ha
  obtain ⟨y, rfl⟩ := Int.eq_ofNat_of_zero_le (Int.le_of_lt hb)
  have h := Nat.div_le_self x y
  rw [iDv, oi_nI, oi_nI, pk_div (by omega) (by omega) (by omega), nI_toInt (by omega)]
  simp
theorem iRm_n {a b : Int} (ha : 0 ≤ a) (ha2 : a < 2147483648) (hb : 0 < b) (hb2 : b < 2147483648) : iRm a b = a % b := by
  obtain ⟨x, rfl⟩ := Int.eq_ofNat_of_zero_le ha
  obtain ⟨y, rfl⟩ := Int.eq_ofNat_of_zero_le (Int.le_of_lt hb)
  have h := Nat.mod_le x y
  rw [iRm, oi_nI, oi_nI, pk_rem (by omega) (by omega) (by omega), nI_toInt (by omega)]
  simp
def paper (w r pl : Int) : Int := if pl = 0 then 90 - r - 2 * w else if pl = 3 then 90 - r - w else 60 - r - w
def thin (r pl : Int) : Int := (if pl = 3 then 50 else 70) - 2 * r
def mx0 (x : Int) : Int := if 0 < x then x else 0
def stren (k w r pl : Int) : Int := if k = 0 then mx0 (paper w r pl) else if k = 1 then mx0 (paper w r pl + 40) else if k = 2 then mx0 (thin r pl) else mx0 (thin r pl + r + 30)
def whH (g : Nat) : Int := (if g.testBit 1 = true then 0 else 1) + (if g.testBit 2 = true then 0 else 1)
def forc (g : Nat) (W E pl j : Int) : Int := if pl = 3 then 3 * E else if pl = 0 then W * (10 + j) / 10 else if whH g = 0 then 0 else W * (10 + j) / 10 / whH g
section BG
variable {h : am_F} {Q : am_V → am_S → Prop} {c k w r S W D E pl j so v : Int} {g : Nat}
theorem s_paperAt {g : Int} (hk : kd c = 0) (hw : 0 ≤ w ∧ w ≤ 999) (hr : 0 ≤ r ∧ r ≤ 999) : wp 49 (am_ju 49 0) [aP c, aI pl] [] (sT (bw h c k w r g S W D E)) Q ↔ Q (aI (paper w r pl)) (sT (bw h c k w r g S W D E)) := by
  simp only [ju_49_0, ju_49_12, ju_49_23, r_iLD1, r_IF1, r_bPUSH, r_aLD0, r_gI, r_iSUB, r_iCONST, r_iMUL, r_iRET, r_IC1, eq_self, Int.reduceLT, Int.reduceLE, Int.reduceEq, true_or, or_true, and_self, true_and, and_true, w8_0, w8_1, w8_2, w8_3, w8_4, nl_I, nl_P, nl_X, pu_I, pu_J, pu_V, hk, bw_1, bw_2]
  simp (disch := omega) only [w3_id]
  unfold paper
  by_cases h0 : pl = 0
  · simp [h0]
  · by_cases h3 : pl = 3
    · simp [h3]
    · simp [h0, h3]
theorem s_thinAt {g : Int} (hk : kd c = 0) (hr : 0 ≤ r ∧ r ≤ 999) : wp 50 (am_ju 50 0) [aP c, aI pl] [] (sT (bw h c k w r g S W D E)) Q ↔ Q (aI (thin r pl)) (sT (bw h c k w r g S W D E)) := by
  simp only [ju_50_0, ju_50_5, ju_50_6, r_iLD1, r_iCONST, r_IC1, r_bPUSH, r_GOTO, r_aLD0, r_gI, r_iMUL, r_iSUB, r_iRET, eq_self, Int.reduceLT, Int.reduceLE, Int.reduceEq, true_or, or_true, and_self, true_and, and_true, w8_0, w8_1, w8_2, w8_3, w8_4, nl_I, nl_P, nl_X, pu_I, pu_J, pu_V, hk, bw_2]
  simp (disch := omega) only [w3_id]
  unfold thin
  by_cases h3 : pl = 3
  · simp [h3]
  · simp [h3]
theorem paper_r (hw : 0 ≤ w ∧ w ≤ 999) (hr : 0 ≤ r ∧ r ≤ 999) : -3000 ≤ paper w r pl ∧ paper w r pl ≤ 90 := by unfold paper; (repeat' split) <;> omega
theorem thin_r (hr : 0 ≤ r ∧ r ≤ 999) : -3000 ≤ thin r pl ∧ thin r pl ≤ 70 := by unfold thin; split <;> omega
theorem s_strengthAt {g : Int} (hk : kd c = 0) (hkk : 0 ≤ k ∧ k ≤ 3) (hw : 0 ≤ w ∧ w ≤ 999) (hr : 0 ≤ r ∧ r ≤ 999) : wp 51 (am_ju 51 0) [aP c, aI pl] [] (sT (bw h c k w r g S W D E)) Q ↔ Q (aI (stren k w r pl)) (sT (bw h c k w r g S W D E)) := by
  have hp := paper_r (pl := pl) hw hr
  have ht := thin_r (pl := pl) hr
  rw [ju_51_0]
  simp only [r_aLD0, r_gI, r_TSW, r_iCONST, r_iLD1, cl_49, r_MMAX, r_iRET, r_bPUSH, r_iADD, cl_50, eq_self, Int.reduceLT, Int.reduceLE, Int.reduceEq, true_or, or_true, and_self, true_and, and_true, w8_0, w8_1, w8_2, w8_3, w8_4, nl_I, nl_P, nl_X, pu_I, pu_J, pu_V, hk, bw_0]
  have h4 : k = 0 ∨ k = 1 ∨ k = 2 ∨ k = 3 := by omega
  rcases h4 with rfl | rfl | rfl | rfl
  · rw [show tswT [0, 2, 23, 3, 9, 17] 0 = 3 from by decide]
    simp only [ju_51_3, r_aLD0, r_gI, r_TSW, r_iCONST, r_iLD1, cl_49, r_MMAX, r_iRET, r_bPUSH, r_iADD, cl_50, eq_self, Int.reduceLT, Int.reduceLE, Int.reduceEq, true_or, or_true, and_self, true_and, and_true, w8_0, w8_1, w8_2, w8_3, w8_4, nl_I, nl_P, nl_X, pu_I, pu_J, pu_V, hk, s_paperAt hk hw hr]
    rfl
  · rw [show tswT [0, 2, 23, 3, 9, 17] 1 = 9 from by decide]
    simp only [ju_51_9, r_aLD0, r_gI, r_TSW, r_iCONST, r_iLD1, cl_49, r_MMAX, r_iRET, r_bPUSH, r_iADD, cl_50, eq_self, Int.reduceLT, Int.reduceLE, Int.reduceEq, true_or, or_true, and_self, true_and, and_true, w8_0, w8_1, w8_2, w8_3, w8_4, nl_I, nl_P, nl_X, pu_I, pu_J, pu_V, hk, s_paperAt hk hw hr]
    simp (disch := omega) only [w3_id]
    rfl
  · rw [show tswT [0, 2, 23, 3, 9, 17] 2 = 17 from by decide]
    simp only [ju_51_17, r_aLD0, r_gI, r_TSW, r_iCONST, r_iLD1, cl_49, r_MMAX, r_iRET, r_bPUSH, r_iADD, cl_50, eq_self, Int.reduceLT, Int.reduceLE, Int.reduceEq, true_or, or_true, and_self, true_and, and_true, w8_0, w8_1, w8_2, w8_3, w8_4, nl_I, nl_P, nl_X, pu_I, pu_J, pu_V, hk, s_thinAt hk hr]
    rfl
  · rw [show tswT [0, 2, 23, 3, 9, 17] 3 = 23 from by decide]
    simp only [ju_51_23, r_aLD0, r_gI, r_TSW, r_iCONST, r_iLD1, cl_49, r_MMAX, r_iRET, r_bPUSH, r_iADD, cl_50, eq_self, Int.reduceLT, Int.reduceLE, Int.reduceEq, true_or, or_true, and_self, true_and, and_true, w8_0, w8_1, w8_2, w8_3, w8_4, nl_I, nl_P, nl_X, pu_I, pu_J, pu_V, hk, s_thinAt hk hr, bw_2]
    simp (disch := omega) only [w3_id]
    rfl
end BG
/-! sums over sets, counts of bits -/
def sumS (f : Int → Int) (a : Nat) (n : Nat) : Int := sumF (fun t => if a.testBit t = true then f t else 0) n
theorem sumS_r {f : Int → Int} {a M : Nat} (hf : ∀ t : Nat, a.testBit t = true → 0 ≤ f t ∧ f t ≤ M) (n : Nat) : 0 ≤ sumS f a n ∧ sumS f a n ≤ n * M := by
  induction n with
  | zero => exact ⟨Int.le_refl _, by simp [sumS, sumF]⟩
  | succ n ih =>
    have e : sumS f a (n + 1) = sumS f a n + (if a.testBit n = true then f n else 0) := rfl
    have e2 : ((n + 1 : Nat) : Int) * M = n * M + M := by rw [Int.natCast_add, Int.add_mul]; simp
    by_cases hb : a.testBit n = true
    · have := hf n hb
      rw [e, if_pos hb]; omega
    · rw [e, if_neg hb]; omega
def popc (a : Nat) : Nat := (List.range 8).countP (fun t => a.testBit t)
def bcE1 (a : Int) : Int := w3 (a - bAnd (bUsh a 1) 1431655765)
def bcE2 (a : Int) : Int := w3 (bAnd a 858993459 + bAnd (bUsh a 2) 858993459)
def bcE3 (a : Int) : Int := bAnd (w3 (a + bUsh a 4)) 252645135
def bcE4 (a : Int) : Int := w3 (a + bUsh a 8)
def bcE5 (a : Int) : Int := w3 (a + bUsh a 16)
theorem bcE_ok : ∀ a : Nat, a < 256 → bAnd (bcE5 (bcE4 (bcE3 (bcE2 (bcE1 (a : Int)))))) 63 = (popc a : Int) := by decide +kernel
section BH
variable {h : am_F} {Q : am_V → am_S → Prop} {c k w r S W D E pl j so v : Int} {g : Nat}
theorem s_bitCount {a : Nat} (ha : a < 256) : wp 55 (am_ju 55 0) [aI (a : Int)] [] (sT h) Q ↔ Q (aI (popc a : Int)) (sT h) := by
  rw [← bcE_ok a ha]
  simp only [ju_55_0, r_iLD0, r_iCONST, r_iUSHR, r_LDCW, r_iAND, r_iSUB, r_iST0, r_iADD, r_bPUSH, r_iRET, eq_self, Int.reduceLT, Int.reduceLE, Int.reduceEq, true_or, or_true, and_self, true_and, and_true, w8_0, w8_1, w8_2, w8_3, w8_4, nl_I, nl_P, nl_X, pu_I, pu_J, pu_V, bcE1, bcE2, bcE3, bcE4, bcE5]
theorem lp_sumOf {a : Nat} (ha : a < 2 ^ 31) (hk : kd c = 20) (hn : ln c = 8) (hf : ∀ t : Nat, a.testBit t = true → 0 ≤ h c t ∧ h c t ≤ (99 : Nat)) : ∀ (n t : Nat), t + n = 8 → (wp 40 (am_ju 40 4) [aP c, aI (a : Int), aI (sumS (h c) a t), aI (t : Int)] [] (sT h) Q ↔ Q (aI (sumS (h c) a 8)) (sT h)) := by
  intro n
  induction n with
  | zero =>
    intro t ht
    have ht : t = 8 := by omega
    subst ht
    simp only [ju_40_4, ju_40_20, r_iCONST, r_iST2, r_iST3, r_iLD3, r_aLD0, r_aLEN, r_aLENs, r_IC3, r_iLD1, cl_29, r_IF0, r_iLD2, r_iALD, r_iALDs, r_iADD, r_IINC3, r_GOTO, r_iRET, eq_self, Int.reduceLT, Int.reduceLE, Int.reduceEq, true_or, or_true, and_self, true_and, and_true, w8_0, w8_1, w8_2, w8_3, w8_4, nl_I, nl_P, nl_X, pu_I, pu_J, pu_V, hk, hn]
    rw [if_pos (by omega)]
  | succ n ih =>
    intro t ht
    have hr := sumS_r (M := 99) hf t
    have hw : w3 ((t : Int) + 1) = ((t + 1 : Nat) : Int) := w3_id (by omega) (by omega)
    have e : sumS (h c) a (t + 1) = sumS (h c) a t + (if a.testBit t = true then h c t else 0) := rfl
    have ih := ih (t + 1) (by omega)
    rw [e] at ih
    rw [ju_40_4]
    simp only [ju_40_18, r_iCONST, r_iST2, r_iST3, r_iLD3, r_aLD0, r_aLEN, r_aLENs, r_IC3, r_iLD1, cl_29, r_IF0, r_iLD2, r_iALD, r_iALDs, r_iADD, r_IINC3, r_GOTO, r_iRET, eq_self, Int.reduceLT, Int.reduceLE, Int.reduceEq, true_or, or_true, and_self, true_and, and_true, w8_0, w8_1, w8_2, w8_3, w8_4, nl_I, nl_P, nl_X, pu_I, pu_J, pu_V, hk, hn, s_has ha (show t < 31 by omega), b01, hw]
    rw [if_neg (by omega)]
    by_cases hb : a.testBit t = true
    · have := hf t hb
      have hw2 : w3 (sumS (h c) a t + h c t) = sumS (h c) a t + h c t := w3_id (by omega) (by omega)
      rw [if_pos hb] at ih
      rw [if_neg (by simpa using hb), hw2]
      exact (and_iff_right ⟨by omega, by omega⟩).trans ih
    · rw [if_neg hb, Int.add_zero] at ih
      rw [if_pos hb]
      exact ih
theorem s_sumOf {a : Nat} (ha : a < 2 ^ 31) (hk : kd c = 20) (hn : ln c = 8) (hf : ∀ t : Nat, a.testBit t = true → 0 ≤ h c t ∧ h c t ≤ (99 : Nat)) : wp 40 (am_ju 40 0) [aP c, aI (a : Int), aX, aX] [] (sT h) Q ↔ Q (aI (sumS (h c) a 8)) (sT h) := by
  rw [ju_40_0]
  simp only [r_iCONST, r_iST2, r_iST3, r_iLD3, r_aLD0, r_aLEN, r_aLENs, r_IC3, r_iLD1, cl_29, r_IF0, r_iLD2, r_iALD, r_iALDs, r_iADD, r_IINC3, r_GOTO, r_iRET, eq_self, Int.reduceLT, Int.reduceLE, Int.reduceEq, true_or, or_true, and_self, true_and, and_true, w8_0, w8_1, w8_2, w8_3, w8_4, nl_I, nl_P, nl_X, pu_I, pu_J, pu_V]
  exact lp_sumOf ha hk hn hf 8 0 rfl
theorem s_thingsAt {pl : Int} {n : Nat} (h8 : n ≤ 8) (hn : h 81 7 = (n : Int)) : wp 39 (am_ju 39 0) [aP 80, aI pl, aX, aX] [] (sT h) Q ↔ Q (aI ((setF (fun t => decide (h 94 t = pl)) n : Nat) : Int)) (sT h) := by
  rw [ju_39_0]
  simp only [r_iCONST, r_iST2, r_iST3, r_iLD3, r_aLD0, r_gR, r_gI, r_IC3, r_iALD, r_iALDs, r_iLD1, r_IC1, r_iLD2, r_iSHL, r_iOR, r_IINC3, r_GOTO, r_iRET, eq_self, Int.reduceLT, Int.reduceLE, Int.reduceEq, true_or, or_true, and_self, true_and, and_true, w8_0, w8_1, w8_2, w8_3, w8_4, nl_I, nl_P, nl_X, pu_I, pu_J, pu_V]
  exact lp_thingsAt h8 hn n 0 (Nat.zero_add n)
theorem g16 : ∀ g : Nat, g < 16 → popc (g &&& 6) ≤ 2 ∧ 2 - (popc (g &&& 6) : Int) = whH g ∧ (g &&& 6) < 256 := by decide +kernel
theorem whH_r (g : Nat) : 0 ≤ whH g ∧ whH g ≤ 2 := by unfold whH; (repeat' split) <;> omega
theorem s_forceAt (hk : kd c = 0) (hg : g < 16) (hW : 0 ≤ W ∧ W ≤ 1000) (hE : 0 ≤ E ∧ E ≤ 1000) (hj : 0 ≤ j ∧ j ≤ 7) : wp 56 (am_ju 56 0) [aP c, aI pl, aI j, aX, aX] [] (sT (bw h c k w r g S W D E)) Q ↔ Q (aI (forc g W E pl j)) (sT (bw h c k w r g S W D E)) := by
  have hm : 0 ≤ W * (10 + j) ∧ W * (10 + j) ≤ 17000 := by
    constructor
    · exact Int.mul_nonneg hW.1 (by omega)
    · exact Int.le_trans (Int.mul_le_mul hW.2 (show 10 + j ≤ 17 by omega) (by omega) (by omega)) (by omega)
  obtain ⟨g1, g2, g3⟩ := g16 g hg
  have hwh := whH_r g
  have hand : bAnd (g : Int) 6 = ((g &&& 6 : Nat) : Int) := bAnd_n g 6 (by omega) (by decide)
  simp only [ju_56_0, ju_56_8, ju_56_21, ju_56_33, ju_56_36, r_iLD1, r_iCONST, r_IC1, r_aLD0, r_gI, r_iMUL, r_iRET, r_bPUSH, r_iLD2, r_iADD, r_iDIV, r_iST3, r_IF1, r_iLD3, r_iAND, cl_55, r_iSUB, r_iST4, r_iLD4, r_IF4, r_GOTO, eq_self, Int.reduceLT, Int.reduceLE, Int.reduceEq, true_or, or_true, and_self, true_and, and_true, w8_0, w8_1, w8_2, w8_3, w8_4, nl_I, nl_P, nl_X, pu_I, pu_J, pu_V, hk, bw_7, bw_5, bw_3, hand, s_bitCount g3, ne_eq, Int.reduceEq, not_false_eq_true]
  simp (disch := omega) only [w3_id]
  rw [iDv_n hm.1 (by omega) (by omega) (by omega), g2]
  unfold forc
  by_cases h3 : pl = 3
  · simp [h3]
  · by_cases h0 : pl = 0
    · simp [h0]
    · by_cases hz : whH g = 0
      · simp [h3, h0, hz]
      · have hpos : 0 < whH g := by omega
        simp only [h3, h0, hz, hpos, if_false, if_true, not_false_eq_true]
        rw [r_iDIV hz, r_iRET, iDv_n (Int.ediv_nonneg hm.1 (by omega)) (by have := Int.ediv_le_self 10 hm.1; omega) hpos (by omega)]
end BH
end
section
def sortI (h : am_F) (s : Int) : Int := if 0 ≤ s ∧ s < h 88 1 ∧ s < 20 then h 89 s else -1
def jl (so bj : Int) : Int := if so = 1 then 2 else if so = 2 then 3 else if so = 3 then bj else 0
def wkB (k w r : Int) (g : Nat) (W E j : Int) (pl : Nat) : Bool := !g.testBit pl && decide (stren k w r pl < forc g W E pl j)
def weak (k w r : Int) (g : Nat) (W E so j : Int) : Int := if so = 4 then -1 else if wkB k w r g W E j 0 = true then 0 else if wkB k w r g W E j 1 = true then 1 else if wkB k w r g W E j 2 = true then 2 else if wkB k w r g W E j 3 = true then 3 else -1
def ageW (w D : Int) : Int := if w + D < 999 then w + D else 999
def ageR (r E so : Int) : Int := if r + (if so = 4 then 2 else 1 + E) < 999 then r + (if so = 4 then 2 else 1 + E) else 999
def tornB (g : Nat) : Bool := g.testBit 0 || (g.testBit 1 && g.testBit 2)
def adn (S f : Nat) : Nat := S &&& (255 ^^^ f)
theorem adn_ok (S f : Nat) (hS : S < 256) (hf : f < 256) : bAnd (S : Int) (bXor (f : Int) (-1)) = (adn S f : Int) := by
  have h1 : Int32.ofInt (bXor (f : Int) (-1)) = nI f ^^^ Int32.ofInt (-1) := by rw [bXor, am_i3, oi_nI]
  have h2 : nI S &&& (nI f ^^^ Int32.ofInt (-1)) = nI (S &&& (255 ^^^ f)) := by
    apply Int32.toBitVec_inj.mp
    rw [Int32.toBitVec_and, Int32.toBitVec_xor]
    apply BitVec.eq_of_getLsbD_eq
    intro i hi
    rw [BitVec.getLsbD_and, BitVec.getLsbD_xor]
    have e1 : (nI S).toBitVec.getLsbD i = S.testBit i := by
      show (BitVec.ofNat 32 S).getLsbD i = _
      rw [BitVec.getLsbD_ofNat]; simp [hi]
    have e2 : (nI f).toBitVec.getLsbD i = f.testBit i := by
      show (BitVec.ofNat 32 f).getLsbD i = _
      rw [BitVec.getLsbD_ofNat]; simp [hi]
    have e3 : (nI (S &&& (255 ^^^ f))).toBitVec.getLsbD i = (S &&& (255 ^^^ f)).testBit i := by
      show (BitVec.ofNat 32 _).getLsbD i = _
      rw [BitVec.getLsbD_ofNat]; simp [hi]
    have e4 : ∀ i, i < 32 → (Int32.ofInt (-1)).toBitVec.getLsbD i = true := by decide +kernel
    rw [e1, e2, e3, e4 i hi, Nat.testBit_and, Nat.testBit_xor, show (255 : Nat) = 2 ^ 8 - 1 from rfl, Nat.testBit_two_pow_sub_one]
    by_cases h8 : i < 8
    · simp [h8]
    · have : S.testBit i = false := Nat.testBit_lt_two_pow (Nat.lt_of_lt_of_le hS (Nat.pow_le_pow_right (n := 2) (i := 8) (by decide) (by omega)))
      simp [this]
  have hlt : S &&& (255 ^^^ f) < 2 ^ 31 := Nat.lt_of_le_of_lt Nat.and_le_left (by omega)
  rw [bAnd, h1, oi_nI, h2, nI_toInt hlt, adn]
theorem up_kd {h : am_F} {c c' k v : Int} {q : Int} (hk : kd c = q) (hn : kd c' ≠ q) : up h c k v c' = h c' := by
  have : c' ≠ c := fun e => hn (by rw [e]; exact hk)
  exact up_ne this k v
section BI
variable {h : am_F} {Q : am_V → am_S → Prop} {c k w r S W D E pl j so v s bj : Int} {g : Nat}
theorem s_sortAt : wp 100 (am_ju 100 0) [aP 88, aI s] [] (sT h) Q ↔ Q (aI (sortI h s)) (sT h) := by
  simp only [ju_100_0, ju_100_14, ju_100_15, r_iLD1, r_IF2, r_aLD0, r_gI, r_IC3, r_bPUSH, r_gR, r_iALD, r_iALDs, r_GOTO, r_iCONST, r_iRET, eq_self, Int.reduceLT, Int.reduceLE, Int.reduceEq, true_or, or_true, and_self, true_and, and_true, w8_0, w8_1, w8_2, w8_3, w8_4, nl_I, nl_P, nl_X, pu_I, pu_J, pu_V, kd_88, ln_88, rR_88_0, kd_89, ln_89]
  unfold sortI
  by_cases h0 : s < 0
  · simp [h0, show ¬ 0 ≤ s by omega]
  · by_cases h1 : h 88 1 ≤ s
    · simp [h0, h1, show ¬ s < h 88 1 by omega]
    · by_cases h2 : 20 ≤ s
      · simp [h0, h1, h2, show ¬ s < 20 by omega]
      · simp [h0, h1, h2, show 0 ≤ s by omega, show s < h 88 1 by omega, show s < 20 by omega]
theorem s_joltAt : wp 113 (am_ju 113 0) [aP 88, aI s, aI bj] [] (sT h) Q ↔ Q (aI (jl (sortI h s) bj)) (sT h) := by
  rw [ju_113_0]
  simp only [r_aLD0, r_iLD1, cl_100, r_TSW, r_iCONST, r_iRET, r_iLD2, eq_self, Int.reduceLT, Int.reduceLE, Int.reduceEq, true_or, or_true, and_self, true_and, and_true, w8_0, w8_1, w8_2, w8_3, w8_4, nl_I, nl_P, nl_X, pu_I, pu_J, pu_V, kd_88, s_sortAt]
  generalize sortI h s = so
  by_cases h1 : so = 1
  · subst h1
    rw [show tswT [1, 3, 10, 4, 6, 8] 1 = 4 from by decide]
    simp only [ju_113_4, r_aLD0, r_iLD1, cl_100, r_TSW, r_iCONST, r_iRET, r_iLD2, eq_self, Int.reduceLT, Int.reduceLE, Int.reduceEq, true_or, or_true, and_self, true_and, and_true, w8_0, w8_1, w8_2, w8_3, w8_4, nl_I, nl_P, nl_X, pu_I, pu_J, pu_V]; simp [jl]
  · by_cases h2 : so = 2
    · subst h2
      rw [show tswT [1, 3, 10, 4, 6, 8] 2 = 6 from by decide]
      simp only [ju_113_6, r_aLD0, r_iLD1, cl_100, r_TSW, r_iCONST, r_iRET, r_iLD2, eq_self, Int.reduceLT, Int.reduceLE, Int.reduceEq, true_or, or_true, and_self, true_and, and_true, w8_0, w8_1, w8_2, w8_3, w8_4, nl_I, nl_P, nl_X, pu_I, pu_J, pu_V]; simp [jl]
    · by_cases h3 : so = 3
      · subst h3
        rw [show tswT [1, 3, 10, 4, 6, 8] 3 = 8 from by decide]
        simp only [ju_113_8, r_aLD0, r_iLD1, cl_100, r_TSW, r_iCONST, r_iRET, r_iLD2, eq_self, Int.reduceLT, Int.reduceLE, Int.reduceEq, true_or, or_true, and_self, true_and, and_true, w8_0, w8_1, w8_2, w8_3, w8_4, nl_I, nl_P, nl_X, pu_I, pu_J, pu_V]; simp [jl]
      · rw [show tswT [1, 3, 10, 4, 6, 8] so = 10 from by
          show (if 1 ≤ so ∧ so ≤ 3 then _ else (10 : Int)) = 10
          exact if_neg (by omega)]
        simp only [ju_113_10, r_aLD0, r_iLD1, cl_100, r_TSW, r_iCONST, r_iRET, r_iLD2, eq_self, Int.reduceLT, Int.reduceLE, Int.reduceEq, true_or, or_true, and_self, true_and, and_true, w8_0, w8_1, w8_2, w8_3, w8_4, nl_I, nl_P, nl_X, pu_I, pu_J, pu_V]; simp [jl, h1, h2, h3]
theorem g_isT : ∀ g : Nat, g < 16 → ((g &&& 6 = 6) ↔ (g.testBit 1 = true ∧ g.testBit 2 = true)) := by decide +kernel
theorem s_has0 {a : Nat} (ha : a < 2 ^ 31) : wp 29 (am_ju 29 0) [aI (a : Int), aI 0] [] (sT h) Q ↔ Q (aI (if a.testBit 0 = true then 1 else 0)) (sT h) := s_has (t := 0) ha (by decide)
theorem s_isTorn (hg : g < 16) : wp 30 (am_ju 30 0) [aI (g : Int)] [] (sT h) Q ↔ Q (aI (if tornB g = true then 1 else 0)) (sT h) := by
  have hand : bAnd (g : Int) 6 = ((g &&& 6 : Nat) : Int) := bAnd_n g 6 (by omega) (by decide)
  have e := g_isT g hg
  simp only [ju_30_0, ju_30_9, ju_30_11, ju_30_12, r_iLD0, r_iCONST, cl_29, r_IF1, r_bPUSH, r_iAND, r_IC1, r_GOTO, r_zRET, eq_self, Int.reduceLT, Int.reduceLE, Int.reduceEq, true_or, or_true, and_self, true_and, and_true, w8_0, w8_1, w8_2, w8_3, w8_4, nl_I, nl_P, nl_X, pu_I, pu_J, pu_V, hand, s_has0 (show g < 2 ^ 31 by omega), b01, r_zRET0, r_zRET1]
  by_cases h0 : g.testBit 0 = true
  · simp [h0, tornB]
  · by_cases h6 : g &&& 6 = 6
    · have := e.mp h6
      simp [h0, h6, tornB, this]
    · have h7 : ¬ (((g &&& 6 : Nat) : Int) = 6) := by omega
      have : ¬ (g.testBit 1 = true ∧ g.testBit 2 = true) := fun q => h6 (e.mpr q)
      have h8 : tornB g = false := by
        unfold tornB
        cases h9 : g.testBit 1 <;> cases h10 : g.testBit 2 <;> simp_all
      simp only [h0, h7, h8, if_false, not_false_eq_true, not_true, if_true]
      simp
theorem st_wk (hk : kd c = 0) (hkk : 0 ≤ k ∧ k ≤ 3) (hw : 0 ≤ w ∧ w ≤ 999) (hr : 0 ≤ r ∧ r ≤ 999) (hg : g < 16) (hW : 0 ≤ W ∧ W ≤ 1000) (hE : 0 ≤ E ∧ E ≤ 1000) (hj : 0 ≤ j ∧ j ≤ 7) {p : Nat} (hp : p < 4) : wp 115 (am_ju 115 7) [aP c, aI so, aI j, aI (p : Int)] [] (sT (bw h c k w r g S W D E)) Q ↔ if wkB k w r g W E j p = true then Q (aI (p : Int)) (sT (bw h c k w r g S W D E)) else wp 115 (am_ju 115 7) [aP c, aI so, aI j, aI ((p + 1 : Nat) : Int)] [] (sT (bw h c k w r g S W D E)) Q := by
  have hw3 : w3 ((p : Int) + 1) = ((p + 1 : Nat) : Int) := w3_id (by omega) (by omega)
  conv => lhs; rw [ju_115_7]
  simp only [ju_115_25, r_iLD1, r_iCONST, r_IC1, r_iRET, r_iST3, r_iLD3, r_IC3, r_aLD0, r_gI, cl_29, r_IF1, r_iLD2, cl_56, cl_51, r_IC5, r_IINC3, r_GOTO, eq_self, Int.reduceLT, Int.reduceLE, Int.reduceEq, true_or, or_true, and_self, true_and, and_true, w8_0, w8_1, w8_2, w8_3, w8_4, nl_I, nl_P, nl_X, pu_I, pu_J, pu_V, hk, bw_3, s_has (show g < 2 ^ 31 by omega) (show p < 31 by omega), b01, s_forceAt hk hg hW hE hj, s_strengthAt hk hkk hw hr, hw3]
  rw [if_neg (by omega)]
  unfold wkB
  by_cases hb : g.testBit p = true
  · simp [hb]
  · by_cases hf : stren k w r p < forc g W E p j
    · simp [hb, hf, show ¬ forc g W E p j ≤ stren k w r p by omega]
    · simp [hb, hf, show forc g W E p j ≤ stren k w r p by omega]
theorem s_weakPlace (hk : kd c = 0) (hkk : 0 ≤ k ∧ k ≤ 3) (hw : 0 ≤ w ∧ w ≤ 999) (hr : 0 ≤ r ∧ r ≤ 999) (hg : g < 16) (hW : 0 ≤ W ∧ W ≤ 1000) (hE : 0 ≤ E ∧ E ≤ 1000) (hj : 0 ≤ j ∧ j ≤ 7) : wp 115 (am_ju 115 0) [aP c, aI so, aI j, aX] [] (sT (bw h c k w r g S W D E)) Q ↔ Q (aI (weak k w r g W E so j)) (sT (bw h c k w r g S W D E)) := by
  rw [ju_115_0]
  simp only [ju_115_5, r_iLD1, r_iCONST, r_IC1, r_iRET, r_iST3, r_iLD3, r_IC3, r_aLD0, r_gI, cl_29, r_IF1, r_iLD2, cl_56, cl_51, r_IC5, r_IINC3, r_GOTO, eq_self, Int.reduceLT, Int.reduceLE, Int.reduceEq, true_or, or_true, and_self, true_and, and_true, w8_0, w8_1, w8_2, w8_3, w8_4, nl_I, nl_P, nl_X, pu_I, pu_J, pu_V]
  have s0 := st_wk (so := so) (S := S) (D := D) (h := h) (Q := Q) hk hkk hw hr hg hW hE hj (p := 0) (by decide)
  have s1 := st_wk (so := so) (S := S) (D := D) (h := h) (Q := Q) hk hkk hw hr hg hW hE hj (p := 1) (by decide)
  have s2 := st_wk (so := so) (S := S) (D := D) (h := h) (Q := Q) hk hkk hw hr hg hW hE hj (p := 2) (by decide)
  have s3 := st_wk (so := so) (S := S) (D := D) (h := h) (Q := Q) hk hkk hw hr hg hW hE hj (p := 3) (by decide)
  have s4 : wp 115 (am_ju 115 7) [aP c, aI so, aI j, aI ((3 + 1 : Nat) : Int)] [] (sT (bw h c k w r g S W D E)) Q ↔ Q (aI (-1)) (sT (bw h c k w r g S W D E)) := by
    rw [ju_115_7]
    simp only [ju_115_27, r_iLD1, r_iCONST, r_IC1, r_iRET, r_iST3, r_iLD3, r_IC3, r_aLD0, r_gI, cl_29, r_IF1, r_iLD2, cl_56, cl_51, r_IC5, r_IINC3, r_GOTO, eq_self, Int.reduceLT, Int.reduceLE, Int.reduceEq, true_or, or_true, and_self, true_and, and_true, w8_0, w8_1, w8_2, w8_3, w8_4, nl_I, nl_P, nl_X, pu_I, pu_J, pu_V]
    rw [if_pos (by decide)]
  simp only [show ((0 : Nat) : Int) = 0 from rfl] at s0
  rw [s4] at s3; rw [s3] at s2; rw [s2] at s1; rw [s1] at s0
  rw [s0]
  unfold weak
  by_cases h4 : so = 4
  · simp [h4]
  · simp only [h4, if_false, not_false_eq_true, if_true]
    (repeat' split) <;> simp_all
theorem s_age (hk : kd c = 0) (hw : 0 ≤ w ∧ w ≤ 999) (hr : 0 ≤ r ∧ r ≤ 999) (hD : 0 ≤ D ∧ D ≤ 1000) (hE : 0 ≤ E ∧ E ≤ 1000) {g : Int} : wp 114 (am_ju 114 0) [aP c, aI so] [] (sT (bw h c k w r g S W D E)) Q ↔ if S = 0 then Q aV (sT (bw h c k w r g S W D E)) else Q aV (sT (bw h c k (ageW w D) (ageR r E so) g S W D E)) := by
  simp only [ju_114_0, ju_114_4, ju_114_22, ju_114_26, r_aLD0, r_gI, r_IF1, r_vRET, r_sPUSH, r_iADD, r_MMIN, r_pI, r_iLD1, r_iCONST, r_IC1, r_GOTO, eq_self, Int.reduceLT, Int.reduceLE, Int.reduceEq, true_or, or_true, and_self, true_and, and_true, w8_0, w8_1, w8_2, w8_3, w8_4, nl_I, nl_P, nl_X, pu_I, pu_J, pu_V, hk, bw_4, bw_1, bw_2, bw_6, bw_7, up_1, up_2]
  simp (disch := omega) only [w3_id]
  unfold ageW ageR
  by_cases h0 : S = 0
  · simp [h0]
  · by_cases h4 : so = 4
    · simp [h0, h4]
    · simp [h0, h4]
end BI
end
section
def lo (a : Int) : Int := bAnd a (w3 (-a))
def loN (a : Nat) : Nat := a - (a &&& (a - 1))
theorem lo_ok : ∀ a : Nat, a < 256 → lo (a : Int) = (loN a : Int) ∧ loN a < 256 ∧ (loN a = 0 ↔ a = 0) ∧ loN a ≤ a := by decide +kernel
theorem lo_sub : ∀ a : Nat, a < 256 → a &&& loN a = loN a := by decide +kernel
/-- what falls: by place p, of the set S, when g is gone -/
def fallN (p : Int) (g S : Nat) : Nat := if p = 3 then loN S else if tornB g = true then S else 0
def gd (h : am_F) (a : Nat) : Prop := ∀ t : Nat, a.testBit t = true → (0 ≤ h 83 t ∧ h 83 t ≤ 30) ∧ (0 ≤ h 84 t ∧ h 84 t ≤ 5) ∧ (0 ≤ h 85 t ∧ h 85 t ≤ 5)
theorem gd_sub {h : am_F} {a b : Nat} (hg : gd h a) (hs : ∀ t, b.testBit t = true → a.testBit t = true) : gd h b := fun t ht => hg t (hs t ht)
section BJ
variable {h : am_F} {Q : am_V → am_S → Prop} {c k w r W D E pl j so v s bj : Int} {g S : Nat}
theorem sS_r {f : Int → Int} {a : Nat} {M : Nat} (hf : ∀ t : Nat, a.testBit t = true → 0 ≤ f t ∧ f t ≤ M) : 0 ≤ sumS f a 8 ∧ sumS f a 8 ≤ 8 * M := sumS_r hf 8
theorem s_hold (hk : kd c = 0) {a : Nat} (ha : a < 256) (hg : gd h a) : wp 41 (am_ju 41 0) [aP c, aP 81, aI (a : Int)] [] (sT h) Q ↔ Q aV (sT (up (up (up (up h c 4 a) c 5 (sumS (h 83) a 8)) c 6 (sumS (h 84) a 8)) c 7 (sumS (h 85) a 8))) := by
  have n1 : kd 83 ≠ 0 := by decide
  have n2 : kd 84 ≠ 0 := by decide
  have n3 : kd 85 ≠ 0 := by decide
  have e1 : ∀ k v, up h c k v 83 = h 83 := fun k v => up_kd hk n1
  have e2 : ∀ k v k' v', up (up h c k v) c k' v' 84 = h 84 := fun k v k' v' => by rw [up_kd hk n2, up_kd hk n2]
  have e3 : ∀ k v k' v' k2 v2, up (up (up h c k v) c k' v') c k2 v2 85 = h 85 := fun k v k' v' k2 v2 => by rw [up_kd hk n3, up_kd hk n3, up_kd hk n3]
  simp only [ju_41_0, r_aLD0, r_iLD2, r_pI, r_aLD1, r_gR, cl_40, r_vRET, eq_self, Int.reduceLT, Int.reduceLE, Int.reduceEq, true_or, or_true, and_self, true_and, and_true, w8_0, w8_1, w8_2, w8_3, w8_4, nl_I, nl_P, nl_X, pu_I, pu_J, pu_V, hk, kd_81, ln_81, rR_81_0, rR_81_1, rR_81_2, rR_81_3, rR_81_4, rR_81_5]
  rw [s_sumOf (show a < 2 ^ 31 by omega) kd_83 ln_83 (fun t ht => by rw [e1]; have := (hg t ht).1; omega), e1]
  simp only [r_aLD0, r_iLD2, r_pI, r_aLD1, r_gR, cl_40, r_vRET, eq_self, Int.reduceLT, Int.reduceLE, Int.reduceEq, true_or, or_true, and_self, true_and, and_true, w8_0, w8_1, w8_2, w8_3, w8_4, nl_I, nl_P, nl_X, pu_I, pu_J, pu_V, hk, kd_81, ln_81, rR_81_0, rR_81_1, rR_81_2, rR_81_3, rR_81_4, rR_81_5]
  rw [s_sumOf (show a < 2 ^ 31 by omega) kd_84 ln_84 (fun t ht => by rw [e2]; have := (hg t ht).2.1; omega), e2]
  simp only [r_aLD0, r_iLD2, r_pI, r_aLD1, r_gR, cl_40, r_vRET, eq_self, Int.reduceLT, Int.reduceLE, Int.reduceEq, true_or, or_true, and_self, true_and, and_true, w8_0, w8_1, w8_2, w8_3, w8_4, nl_I, nl_P, nl_X, pu_I, pu_J, pu_V, hk, kd_81, ln_81, rR_81_0, rR_81_1, rR_81_2, rR_81_3, rR_81_4, rR_81_5]
  rw [s_sumOf (show a < 2 ^ 31 by omega) kd_85 ln_85 (fun t ht => by rw [e3]; have := (hg t ht).2.2; omega), e3]
  simp only [r_aLD0, r_iLD2, r_pI, r_aLD1, r_gR, cl_40, r_vRET, eq_self, Int.reduceLT, Int.reduceLE, Int.reduceEq, true_or, or_true, and_self, true_and, and_true, w8_0, w8_1, w8_2, w8_3, w8_4, nl_I, nl_P, nl_X, pu_I, pu_J, pu_V, hk, kd_81, ln_81, rR_81_0, rR_81_1, rR_81_2, rR_81_3, rR_81_4, rR_81_5]
theorem bw_hold {a : Int} : up (up (up (up (bw h c k w r pl so W D E) c 4 a) c 5 v) c 6 s) c 7 bj = bw h c k w r pl a v s bj := by rw [up_4, up_5, up_6, up_7]
theorem s_load (hk : kd c = 0) {b : Int} (hb : 0 ≤ b ∧ b < h 81 6 ∧ b < 3) {a : Nat} (ha : a < 256) (hg : gd h a) : wp 42 (am_ju 42 0) [aP 80, aP c, aI b, aI (a : Int)] [] (sT h) Q ↔ Q aV (sT (bw h c (h 82 b) (h 91 b) (h 92 b) (h 93 b) a (sumS (h 83) a 8) (sumS (h 84) a 8) (sumS (h 85) a 8))) := by
  have e : ∀ (h' : am_F) (k v c' : Int), kd c' ≠ 0 → up h' c k v c' = h' c' := fun h' k v c' hn => up_kd hk hn
  rw [ju_42_0]
  simp only [ju_42_6, r_aLD0, r_gR, r_iLD2, cl_28, r_IF1, r_vRET, r_aLD1, r_iALD, r_iALDs, r_pI, r_iLD3, cl_41, eq_self, Int.reduceLT, Int.reduceLE, Int.reduceEq, true_or, or_true, and_self, true_and, and_true, w8_0, w8_1, w8_2, w8_3, w8_4, nl_I, nl_P, nl_X, pu_I, pu_J, pu_V, hk, kd_80, ln_80, rR_80_0, rR_80_1, rR_80_2, rR_80_3, kd_81, ln_81, rR_81_0, rR_81_1, rR_81_2, rR_81_3, rR_81_4, rR_81_5, kd_82, ln_82, kd_90, ln_90, rR_90_0, rR_90_1, rR_90_2, rR_90_3, kd_91, ln_91, kd_92, ln_92, kd_93, ln_93, s_hasBag kd_81, b01, hb.1, hb.2.1, and_self, if_true, not_true, if_false, Int.reduceNeg, not_false_eq_true]
  rw [e _ _ _ 91 (by decide), e _ _ _ 92 (by decide), e _ _ _ 92 (by decide), e _ _ _ 93 (by decide), e _ _ _ 93 (by decide), e _ _ _ 93 (by decide)]
  have hg2 : gd (up (up (up (up h c 0 (h 82 b)) c 1 (h 91 b)) c 2 (h 92 b)) c 3 (h 93 b)) a := by
    intro t ht
    rw [e _ _ _ 83 (by decide), e _ _ _ 83 (by decide), e _ _ _ 83 (by decide), e _ _ _ 83 (by decide), e _ _ _ 84 (by decide), e _ _ _ 84 (by decide), e _ _ _ 84 (by decide), e _ _ _ 84 (by decide), e _ _ _ 85 (by decide), e _ _ _ 85 (by decide), e _ _ _ 85 (by decide), e _ _ _ 85 (by decide)]
    exact hg t ht
  simp only [s_hold hk ha hg2, r_aLD0, r_gR, r_iLD2, cl_28, r_IF1, r_vRET, r_aLD1, r_iALD, r_iALDs, r_pI, r_iLD3, cl_41, eq_self, Int.reduceLT, Int.reduceLE, Int.reduceEq, true_or, or_true, and_self, true_and, and_true, w8_0, w8_1, w8_2, w8_3, w8_4, nl_I, nl_P, nl_X, pu_I, pu_J, pu_V]
  rw [e _ _ _ 83 (by decide), e _ _ _ 83 (by decide), e _ _ _ 83 (by decide), e _ _ _ 83 (by decide), e _ _ _ 84 (by decide), e _ _ _ 84 (by decide), e _ _ _ 84 (by decide), e _ _ _ 84 (by decide), e _ _ _ 85 (by decide), e _ _ _ 85 (by decide), e _ _ _ 85 (by decide), e _ _ _ 85 (by decide)]
  have hbb : (0 ≤ b ∧ b < 3) := ⟨hb.1, hb.2.2⟩
  simp only [hbb, true_and]
  rfl
theorem s_sag {g S : Int} (hk : kd c = 0) (hw : 0 ≤ w ∧ w ≤ 999) (hr : 0 ≤ r ∧ r ≤ 999) : wp 43 (am_ju 43 0) [aP c] [] (sT (bw h c k w r g S W D E)) Q ↔ Q (aI ((w + r) / 10)) (sT (bw h c k w r g S W D E)) := by
  simp only [ju_43_0, r_aLD0, r_gI, r_iADD, r_bPUSH, r_iDIV, r_iRET, eq_self, Int.reduceLT, Int.reduceLE, Int.reduceEq, true_or, or_true, and_self, true_and, and_true, w8_0, w8_1, w8_2, w8_3, w8_4, nl_I, nl_P, nl_X, pu_I, pu_J, pu_V, hk, bw_1, bw_2, ne_eq, Int.reduceEq, not_false_eq_true]
  simp (disch := omega) only [w3_id]
  rw [iDv_n (by omega) (by omega) (by omega) (by omega)]
theorem s_lowest {a : Int} : wp 116 (am_ju 116 0) [aI a] [] (sT h) Q ↔ Q (aI (lo a)) (sT h) := by
  simp only [ju_116_0, r_iLD0, r_iNEG, r_iAND, r_iRET, eq_self, Int.reduceLT, Int.reduceLE, Int.reduceEq, true_or, or_true, and_self, true_and, and_true, w8_0, w8_1, w8_2, w8_3, w8_4, nl_I, nl_P, nl_X, pu_I, pu_J, pu_V, lo]
theorem s_fallenBy (hk : kd c = 0) (hg : g < 16) (hS : S < 256) : wp 117 (am_ju 117 0) [aP c, aI pl] [] (sT (bw h c k w r g S W D E)) Q ↔ Q (aI (fallN pl g S : Int)) (sT (bw h c k w r g S W D E)) := by
  simp only [ju_117_0, ju_117_7, ju_117_14, ju_117_15, r_iLD1, r_iCONST, r_IC1, r_aLD0, r_gI, cl_116, r_iRET, cl_30, r_IF0, r_GOTO, eq_self, Int.reduceLT, Int.reduceLE, Int.reduceEq, true_or, or_true, and_self, true_and, and_true, w8_0, w8_1, w8_2, w8_3, w8_4, nl_I, nl_P, nl_X, pu_I, pu_J, pu_V, hk, bw_4, bw_3, s_lowest, s_isTorn hg, b01, (lo_ok S hS).1]
  unfold fallN
  by_cases h3 : pl = 3
  · simp [h3]
  · by_cases ht : tornB g = true
    · simp [h3, ht]
    · simp [h3, ht]
end BJ
end
section
/-- a bag of world h with the set S of things -/
def bS (h : am_F) (c k w r : Int) (g S : Nat) : am_F := bw h c k w r (g : Int) (S : Int) (sumS (h 83) S 8) (sumS (h 84) S 8) (sumS (h 85) S 8)
def wkS (h : am_F) (k w r : Int) (g S : Nat) (so j : Int) : Int := weak k w r g (sumS (h 83) S 8) (sumS (h 85) S 8) so j
def aW (h : am_F) (w : Int) (S : Nat) : Int := ageW w (sumS (h 84) S 8)
def aR (h : am_F) (r : Int) (S : Nat) (so : Int) : Int := ageR r (sumS (h 85) S 8) so
/-- one step of a bag: wet, wear, gone, things, what falls -/
def cy (h : am_F) (k so j : Int) (w r : Int) (g S : Nat) : Int × Int × Nat × Nat × Nat :=
  if S = 0 then (w, r, g, S, 0)
  else if wkS h k (aW h w S) (aR h r S so) g S so j < 0 then (aW h w S, aR h r S so, g, S, 0)
  else (aW h w S, aR h r S so, g ||| 2 ^ (wkS h k (aW h w S) (aR h r S so) g S so j).toNat, adn S (fallN (wkS h k (aW h w S) (aR h r S so) g S so j) (g ||| 2 ^ (wkS h k (aW h w S) (aR h r S so) g S so j).toNat) S), fallN (wkS h k (aW h w S) (aR h r S so) g S so j) (g ||| 2 ^ (wkS h k (aW h w S) (aR h r S so) g S so j).toNat) S)
theorem weak_r {k w r W E so j : Int} {g : Nat} : -1 ≤ weak k w r g W E so j ∧ weak k w r g W E so j ≤ 3 := by unfold weak; (repeat' split) <;> omega
theorem ageW_r {w D : Int} (hw : 0 ≤ w ∧ w ≤ 999) (hD : 0 ≤ D) : 0 ≤ ageW w D ∧ ageW w D ≤ 999 := by unfold ageW; split <;> omega
theorem ageR_r {r E so : Int} (hr : 0 ≤ r ∧ r ≤ 999) (hE : 0 ≤ E) : 0 ≤ ageR r E so ∧ ageR r E so ≤ 999 := by unfold ageR; (repeat' split) <;> omega
theorem gd_W {h : am_F} {a : Nat} (hg : gd h a) : (0 ≤ sumS (h 83) a 8 ∧ sumS (h 83) a 8 ≤ 240) ∧ (0 ≤ sumS (h 84) a 8 ∧ sumS (h 84) a 8 ≤ 40) ∧ (0 ≤ sumS (h 85) a 8 ∧ sumS (h 85) a 8 ≤ 40) := by
  have h1 := sS_r (f := h 83) (a := a) (M := 30) (fun t ht => by have := (hg t ht).1; omega)
  have h2 := sS_r (f := h 84) (a := a) (M := 5) (fun t ht => by have := (hg t ht).2.1; omega)
  have h3 := sS_r (f := h 85) (a := a) (M := 5) (fun t ht => by have := (hg t ht).2.2; omega)
  omega
theorem adn_lt {S f : Nat} (hS : S < 256) : adn S f < 256 := Nat.lt_of_le_of_lt Nat.and_le_left hS
theorem adn_sub {S f t : Nat} (h : (adn S f).testBit t = true) : S.testBit t = true := by
  unfold adn at h
  rw [Nat.testBit_and, Bool.and_eq_true] at h
  exact h.1
theorem adn_0 {S : Nat} (hS : S < 256) : adn S 0 = S := by
  unfold adn
  rw [Nat.xor_zero, show (255 : Nat) = 2 ^ 8 - 1 from rfl, Nat.and_two_pow_sub_one_eq_mod, Nat.mod_eq_of_lt hS]
theorem fallN_lt {p : Int} {g S : Nat} (hS : S < 256) : fallN p g S < 256 := by
  unfold fallN
  split
  · exact (lo_ok S hS).2.1
  · split
    · exact hS
    · omega
theorem or16 {g p : Nat} (hg : g < 16) (hp : p < 4) : g ||| 2 ^ p < 16 := Nat.or_lt_two_pow (n := 4) hg (Nat.pow_lt_pow_right (by decide) hp)
section BK
variable {h : am_F} {Q : am_V → am_S → Prop} {c k w r so j s bj : Int} {g S : Nat}
theorem cy_r (hw : 0 ≤ w ∧ w ≤ 999) (hr : 0 ≤ r ∧ r ≤ 999) (hg : g < 16) (hS : S < 256) (hd : gd h S) : (0 ≤ (cy h k so j w r g S).1 ∧ (cy h k so j w r g S).1 ≤ 999) ∧ (0 ≤ (cy h k so j w r g S).2.1 ∧ (cy h k so j w r g S).2.1 ≤ 999) ∧ (cy h k so j w r g S).2.2.1 < 16 ∧ (cy h k so j w r g S).2.2.2.1 < 256 ∧ gd h (cy h k so j w r g S).2.2.2.1 ∧ (cy h k so j w r g S).2.2.2.2 < 256 := by
  obtain ⟨d1, d2, d3⟩ := gd_W hd
  have a1 := ageW_r hw d2.1
  have a2 := ageR_r (so := so) hr d3.1
  have wr := weak_r (k := k) (w := aW h w S) (r := aR h r S so) (W := sumS (h 83) S 8) (E := sumS (h 85) S 8) (so := so) (j := j) (g := g)
  unfold cy
  by_cases h0 : S = 0
  · rw [if_pos h0]; exact ⟨hw, hr, hg, hS, hd, by simp⟩
  · rw [if_neg h0]
    by_cases hp : wkS h k (aW h w S) (aR h r S so) g S so j < 0
    · rw [if_pos hp]; exact ⟨a1, a2, hg, hS, hd, by simp⟩
    · rw [if_neg hp]
      exact ⟨a1, a2, or16 hg (by unfold wkS at hp ⊢; omega), adn_lt hS, gd_sub hd (fun t ht => adn_sub ht), fallN_lt hS⟩
theorem bS_n {c' : Int} (hk : kd c = 0) (hn : kd c' ≠ 0) : bS h c k w r g S c' = h c' := bw_n hk hn
set_option maxHeartbeats 1000000 in
theorem s_carry (hk : kd c = 0) (hkk : 0 ≤ k ∧ k ≤ 3) (hw : 0 ≤ w ∧ w ≤ 999) (hr : 0 ≤ r ∧ r ≤ 999) (hg : g < 16) (hS : S < 256) (hd : gd h S) (hj : 0 ≤ j ∧ j ≤ 7) : wp 118 (am_ju 118 0) [aP c, aP 81, aI so, aI j, aX, aX] [] (sT (bS h c k w r g S)) Q ↔ Q (aI ((cy h k so j w r g S).2.2.2.2 : Int)) (sT (bS h c k (cy h k so j w r g S).1 (cy h k so j w r g S).2.1 (cy h k so j w r g S).2.2.1 (cy h k so j w r g S).2.2.2.1)) := by
  obtain ⟨d1, d2, d3⟩ := gd_W hd
  have a1 := ageW_r hw d2.1
  have a2 := ageR_r (so := so) hr d3.1
  have wr := weak_r (k := k) (w := aW h w S) (r := aR h r S so) (W := sumS (h 83) S 8) (E := sumS (h 85) S 8) (so := so) (j := j) (g := g)
  rw [ju_118_0]
  unfold bS cy
  by_cases h0 : S = 0
  · subst h0
    simp only [r_aLD0, r_gI, r_IF1, r_iCONST, r_iRET, r_iLD2, cl_114, r_iLD3, cl_115, r_iST4, r_iLD4, r_IF3, r_DUPI, r_DUPP, r_iSHL, r_iOR, r_pI, cl_117, r_iST5, r_iLD5, r_IF0, r_aLD1, r_iXOR, r_iAND, cl_41, eq_self, Int.reduceLT, Int.reduceLE, Int.reduceEq, true_or, or_true, and_self, true_and, and_true, w8_0, w8_1, w8_2, w8_3, w8_4, nl_I, nl_P, nl_X, pu_I, pu_J, pu_V, hk, bw_4, if_true]
    simp
  · have h0' : ¬ ((S : Int) = 0) := by omega
    simp only [r_aLD0, r_gI, r_IF1, r_iCONST, r_iRET, r_iLD2, cl_114, r_iLD3, cl_115, r_iST4, r_iLD4, r_IF3, r_DUPI, r_DUPP, r_iSHL, r_iOR, r_pI, cl_117, r_iST5, r_iLD5, r_IF0, r_aLD1, r_iXOR, r_iAND, cl_41, eq_self, Int.reduceLT, Int.reduceLE, Int.reduceEq, true_or, or_true, and_self, true_and, and_true, w8_0, w8_1, w8_2, w8_3, w8_4, nl_I, nl_P, nl_X, pu_I, pu_J, pu_V, hk, bw_4, if_neg h0, if_neg h0', not_false_eq_true, if_true, h0']
    rw [ju_118_5]
    simp only [r_aLD0, r_gI, r_IF1, r_iCONST, r_iRET, r_iLD2, cl_114, r_iLD3, cl_115, r_iST4, r_iLD4, r_IF3, r_DUPI, r_DUPP, r_iSHL, r_iOR, r_pI, cl_117, r_iST5, r_iLD5, r_IF0, r_aLD1, r_iXOR, r_iAND, cl_41, eq_self, Int.reduceLT, Int.reduceLE, Int.reduceEq, true_or, or_true, and_self, true_and, and_true, w8_0, w8_1, w8_2, w8_3, w8_4, nl_I, nl_P, nl_X, pu_I, pu_J, pu_V, hk, s_age hk hw hr ⟨d2.1, by omega⟩ ⟨d3.1, by omega⟩, if_neg h0', s_weakPlace hk hkk a1 a2 hg ⟨d1.1, by omega⟩ ⟨d3.1, by omega⟩ hj]
    rw [show weak k (ageW w (sumS (h 84) S 8)) (ageR r (sumS (h 85) S 8) so) g (sumS (h 83) S 8) (sumS (h 85) S 8) so j = wkS h k (aW h w S) (aR h r S so) g S so j from rfl]
    rw [show ageW w (sumS (h 84) S 8) = aW h w S from rfl, show ageR r (sumS (h 85) S 8) so = aR h r S so from rfl]
    generalize hpq : wkS h k (aW h w S) (aR h r S so) g S so j = p
    unfold wkS at hpq
    rw [hpq] at wr
    by_cases hp : p < 0
    · rw [if_neg (by omega), if_pos hp]
      simp
    · obtain ⟨q, rfl⟩ := Int.eq_ofNat_of_zero_le (show 0 ≤ p by omega)
      have hq : q < 4 := by omega
      have h31 : 1 * 2 ^ q < 2 ^ 31 := by
        rw [Nat.one_mul]; exact Nat.pow_lt_pow_right (by decide) (by omega)
      have hor := or16 hg hq
      have e1 : bOr (g : Int) (bShl 1 (q : Int)) = ((g ||| 2 ^ q : Nat) : Int) := by
        rw [show (1 : Int) = ((1 : Nat) : Int) from rfl, bShl_n 1 q (by omega) h31, bOr_n _ _ (by omega) h31, Nat.one_mul]
      rw [if_pos (by omega), if_neg hp, ju_118_17]
      simp only [r_aLD0, r_gI, r_IF1, r_iCONST, r_iRET, r_iLD2, cl_114, r_iLD3, cl_115, r_iST4, r_iLD4, r_IF3, r_DUPI, r_DUPP, r_iSHL, r_iOR, r_pI, cl_117, r_iST5, r_iLD5, r_IF0, r_aLD1, r_iXOR, r_iAND, cl_41, eq_self, Int.reduceLT, Int.reduceLE, Int.reduceEq, true_or, or_true, and_self, true_and, and_true, w8_0, w8_1, w8_2, w8_3, w8_4, nl_I, nl_P, nl_X, pu_I, pu_J, pu_V, hk, bw_3, e1, up_3, s_fallenBy hk hor hS, bw_4]
      rw [Int.toNat_natCast]
      generalize hfq : fallN (q : Int) (g ||| 2 ^ q) S = f
      have hf : f < 256 := by rw [← hfq]; exact fallN_lt hS
      by_cases hf0 : f = 0
      · subst hf0
        simp only [adn_0 hS, Int.natCast_zero, if_true, ju_118_40, r_aLD0, r_gI, r_IF1, r_iCONST, r_iRET, r_iLD2, cl_114, r_iLD3, cl_115, r_iST4, r_iLD4, r_IF3, r_DUPI, r_DUPP, r_iSHL, r_iOR, r_pI, cl_117, r_iST5, r_iLD5, r_IF0, r_aLD1, r_iXOR, r_iAND, cl_41, eq_self, Int.reduceLT, Int.reduceLE, Int.reduceEq, true_or, or_true, and_self, true_and, and_true, w8_0, w8_1, w8_2, w8_3, w8_4, nl_I, nl_P, nl_X, pu_I, pu_J, pu_V]
      · rw [if_neg (by omega)]
        have hgd : gd (bw h c k (aW h w S) (aR h r S so) ((g ||| 2 ^ q : Nat) : Int) (S : Int) (sumS (h 83) S 8) (sumS (h 84) S 8) (sumS (h 85) S 8)) (adn S f) := by
          intro t ht
          rw [bw_n hk (by decide), bw_n hk (by decide), bw_n hk (by decide)]
          exact hd t (adn_sub ht)
        simp only [adn_ok S f hS hf, s_hold hk (adn_lt hS) hgd, r_aLD0, r_gI, r_IF1, r_iCONST, r_iRET, r_iLD2, cl_114, r_iLD3, cl_115, r_iST4, r_iLD4, r_IF3, r_DUPI, r_DUPP, r_iSHL, r_iOR, r_pI, cl_117, r_iST5, r_iLD5, r_IF0, r_aLD1, r_iXOR, r_iAND, cl_41, eq_self, Int.reduceLT, Int.reduceLE, Int.reduceEq, true_or, or_true, and_self, true_and, and_true, w8_0, w8_1, w8_2, w8_3, w8_4, nl_I, nl_P, nl_X, pu_I, pu_J, pu_V, ju_118_40, bw_hold]
        rw [bw_n hk (by decide), bw_n hk (by decide), bw_n hk (by decide)]
end BK
end
section
/-- the step at which a bag gives first (99: none), n steps from s on -/
def fgv (h : am_F) (k : Int) (g S : Nat) (bj : Int) : Nat → Nat → Int → Int → Int
  | 0, _, _, _ => 99
  | n + 1, s, w, r => if 0 ≤ wkS h k (aW h w S) (aR h r S (sortI h s)) g S (sortI h s) (jl (sortI h s) bj) then (s : Int) else fgv h k g S bj n (s + 1) (aW h w S) (aR h r S (sortI h s))
theorem jl_r {so bj : Int} (hb : 0 ≤ bj ∧ bj ≤ 7) : 0 ≤ jl so bj ∧ jl so bj ≤ 7 := by unfold jl; (repeat' split) <;> omega
theorem sortI_bS {h : am_F} {c k w r s : Int} {g S : Nat} (hk : kd c = 0) : sortI (bS h c k w r g S) s = sortI h s := by
  unfold sortI; rw [bS_n hk (by decide), bS_n hk (by decide)]
theorem sum_bS {h : am_F} {c k w r : Int} {g S : Nat} (hk : kd c = 0) : bS h c k w r g S 83 = h 83 ∧ bS h c k w r g S 84 = h 84 ∧ bS h c k w r g S 85 = h 85 := ⟨bS_n hk (by decide), bS_n hk (by decide), bS_n hk (by decide)⟩
section GV
variable {h : am_F} {Q : am_V → am_S → Prop} {c k w r so j bj : Int} {g S : Nat}
theorem s_ageS (hk : kd c = 0) (hw : 0 ≤ w ∧ w ≤ 999) (hr : 0 ≤ r ∧ r ≤ 999) (hd : gd h S) (hS : S ≠ 0) : wp 114 (am_ju 114 0) [aP c, aI so] [] (sT (bS h c k w r g S)) Q ↔ Q aV (sT (bS h c k (aW h w S) (aR h r S so) g S)) := by
  obtain ⟨d1, d2, d3⟩ := gd_W hd
  unfold bS
  rw [s_age hk hw hr ⟨d2.1, by omega⟩ ⟨d3.1, by omega⟩, if_neg (by omega)]
  rfl
theorem s_weakS (hk : kd c = 0) (hkk : 0 ≤ k ∧ k ≤ 3) (hw : 0 ≤ w ∧ w ≤ 999) (hr : 0 ≤ r ∧ r ≤ 999) (hg : g < 16) (hd : gd h S) (hj : 0 ≤ j ∧ j ≤ 7) : wp 115 (am_ju 115 0) [aP c, aI so, aI j, aX] [] (sT (bS h c k w r g S)) Q ↔ Q (aI (wkS h k w r g S so j)) (sT (bS h c k w r g S)) := by
  obtain ⟨d1, d2, d3⟩ := gd_W hd
  unfold bS
  rw [s_weakPlace hk hkk hw hr hg ⟨d1.1, by omega⟩ ⟨d3.1, by omega⟩ hj]
  rfl
theorem aW_r (hw : 0 ≤ w ∧ w ≤ 999) (hd : gd h S) : 0 ≤ aW h w S ∧ aW h w S ≤ 999 := ageW_r hw (gd_W hd).2.1.1
theorem aR_r (hr : 0 ≤ r ∧ r ≤ 999) (hd : gd h S) : 0 ≤ aR h r S so ∧ aR h r S so ≤ 999 := ageR_r hr (gd_W hd).2.2.1
theorem lp_firstGive (hk : kd c = 0) (hkk : 0 ≤ k ∧ k ≤ 3) (hg : g < 16) (hd : gd h S) (hS : S ≠ 0) (hb : 0 ≤ bj ∧ bj ≤ 7) {fr : Int} {L : Nat} (hL : h 88 1 = (L : Int)) (hL2 : L ≤ 20) : ∀ (n s : Nat) (w r : Int) (v : am_V), am_nl v = true → s + n = L → (0 ≤ w ∧ w ≤ 999) → (0 ≤ r ∧ r ≤ 999) → (∀ w' r', Q (aI (fgv h k g S bj n s w r)) (sT (bS h c k w' r' g S))) → wp 135 (am_ju 135 7) [aP c, aP 88, aI fr, aI bj, aI (s : Int), v] [] (sT (bS h c k w r g S)) Q := by
  intro n
  induction n with
  | zero =>
    intro s w r v hv hs hw hr hq
    have hs : s = L := by omega
    subst hs
    rw [ju_135_7]
    simp only [ju_135_30, r_aLD0, r_gI, r_IF1, r_bPUSH, r_iRET, r_iLD2, r_iST4, r_iLD4, r_aLD1, r_IC3, cl_100, r_iST5, r_iLD5, cl_114, r_iLD3, cl_113, cl_115, r_IF2, r_IINC4, r_GOTO, eq_self, Int.reduceLT, Int.reduceLE, Int.reduceEq, true_or, or_true, and_self, true_and, and_true, w8_0, w8_1, w8_2, w8_3, w8_4, nl_I, nl_P, nl_X, pu_I, pu_J, pu_V, kd_88, bS_n hk (show kd 88 ≠ 0 by decide), hL]
    rw [if_pos (by omega)]
    exact hq w r
  | succ n ih =>
    intro s w r v hv hs hw hr hq
    have hw3 : w3 ((s : Int) + 1) = ((s + 1 : Nat) : Int) := w3_id (by omega) (by omega)
    have a1 := aW_r hw hd
    have a2 := aR_r (so := sortI h s) hr hd
    rw [ju_135_7]
    simp only [ju_135_28, r_aLD0, r_gI, r_IF1, r_bPUSH, r_iRET, r_iLD2, r_iST4, r_iLD4, r_aLD1, r_IC3, cl_100, r_iST5, r_iLD5, cl_114, r_iLD3, cl_113, cl_115, r_IF2, r_IINC4, r_GOTO, eq_self, Int.reduceLT, Int.reduceLE, Int.reduceEq, true_or, or_true, and_self, true_and, and_true, w8_0, w8_1, w8_2, w8_3, w8_4, nl_I, nl_P, nl_X, pu_I, pu_J, pu_V, kd_88, bS_n hk (show kd 88 ≠ 0 by decide), hL, hk, s_sortAt, s_joltAt, sortI_bS hk, s_ageS hk hw hr hd hS, s_weakS hk hkk a1 a2 hg hd (jl_r hb), hw3]
    rw [if_neg (by omega)]
    rw [fgv] at hq
    split
    · next hp =>
      rw [if_neg (by omega)] at hq
      exact ih (s + 1) _ _ _ rfl (by omega) a1 a2 hq
    · next hp =>
      rw [if_pos (by omega)] at hq
      exact hq _ _
theorem s_firstGive (hk : kd c = 0) (hkk : 0 ≤ k ∧ k ≤ 3) (hw : 0 ≤ w ∧ w ≤ 999) (hr : 0 ≤ r ∧ r ≤ 999) (hg : g < 16) (hd : gd h S) (hb : 0 ≤ bj ∧ bj ≤ 7) {fr L : Nat} (hL : h 88 1 = (L : Int)) (hL2 : L ≤ 20) (hfr : fr ≤ L) (hq : ∀ w' r', Q (aI (if S = 0 then 99 else fgv h k g S bj (L - fr) fr w r)) (sT (bS h c k w' r' g S))) : wp 135 (am_ju 135 0) [aP c, aP 88, aI (fr : Int), aI bj, aX, aX] [] (sT (bS h c k w r g S)) Q := by
  have e4 : bS h c k w r g S c 4 = (S : Int) := bw_4
  rw [ju_135_0]
  by_cases h0 : S = 0
  · subst h0
    have e40 : bS h c k w r g 0 c 4 = 0 := bw_4
    simp only [r_aLD0, r_gI, r_IF1, r_bPUSH, r_iRET, r_iLD2, r_iST4, r_iLD4, r_aLD1, r_IC3, cl_100, r_iST5, r_iLD5, cl_114, r_iLD3, cl_113, cl_115, r_IF2, r_IINC4, r_GOTO, eq_self, Int.reduceLT, Int.reduceLE, Int.reduceEq, true_or, or_true, and_self, true_and, and_true, w8_0, w8_1, w8_2, w8_3, w8_4, nl_I, nl_P, nl_X, pu_I, pu_J, pu_V, hk, e40, not_true, if_false]
    simpa using hq w r
  · simp only [ju_135_5, r_aLD0, r_gI, r_IF1, r_bPUSH, r_iRET, r_iLD2, r_iST4, r_iLD4, r_aLD1, r_IC3, cl_100, r_iST5, r_iLD5, cl_114, r_iLD3, cl_113, cl_115, r_IF2, r_IINC4, r_GOTO, eq_self, Int.reduceLT, Int.reduceLE, Int.reduceEq, true_or, or_true, and_self, true_and, and_true, w8_0, w8_1, w8_2, w8_3, w8_4, nl_I, nl_P, nl_X, pu_I, pu_J, pu_V, hk, e4]
    rw [if_pos (by omega)]
    refine lp_firstGive hk hkk hg hd h0 hb hL hL2 (L - fr) fr w r aX rfl (by omega) hw hr (fun w' r' => ?_)
    have := hq w' r'
    rwa [if_neg h0] at this
end GV
end
section
section RC
variable {m : Nat} {is : List am_I} {L S : List am_V} {h : am_F} {Q : am_V → am_S → Prop} {i v c : Int}
theorem r_iALDc (hk : kd c = 20) (h0 : 0 ≤ i) (h1 : i < ln c) : wp m (iALD :: is) L (aI i :: aP c :: S) (sT h) Q ↔ wp m is L (aI (h c i) :: S) (sT h) Q := by rw [r_iALD hk]; exact and_iff_right ⟨h0, h1⟩
theorem r_iASTc (hk : kd c = 20) (h0 : 0 ≤ i) (h1 : i < ln c) : wp m (iAST :: is) L (aI v :: aI i :: aP c :: S) (sT h) Q ↔ wp m is L S (sT (up h c i v)) Q := by rw [r_iAST hk]; exact and_iff_right ⟨h0, h1⟩
theorem r_lALDc (hk : kd c = 21) (h0 : 0 ≤ i) (h1 : i < ln c) : wp m (lALD :: is) L (aI i :: aP c :: S) (sT h) Q ↔ wp m is L (aJ (h c i) :: S) (sT h) Q := by rw [r_lALD hk]; exact and_iff_right ⟨h0, h1⟩
theorem r_lASTc (hk : kd c = 21) (h0 : 0 ≤ i) (h1 : i < ln c) : wp m (lAST :: is) L (aJ v :: aI i :: aP c :: S) (sT h) Q ↔ wp m is L S (sT (up h c i v)) Q := by rw [r_lAST hk]; exact and_iff_right ⟨h0, h1⟩
end RC
section MD
variable {h : am_F} {Q : am_V → am_S → Prop} {c b x y z pl j so v : Int}
theorem s_in : wp 17 (am_ju 17 0) [aI x, aI y, aI z] [] (sT h) Q ↔ Q (aI (if y ≤ x ∧ x ≤ z then 1 else 0)) (sT h) := by
  simp only [ju_17_0, ju_17_8, ju_17_9, r_iLD0, r_iLD1, r_IC2, r_iLD2, r_IC4, r_iCONST, r_GOTO, r_zRET, eq_self, Int.reduceLT, Int.reduceLE, Int.reduceEq, true_or, or_true, and_self, true_and, and_true, w8_0, w8_1, w8_2, w8_3, w8_4, nl_I, nl_P, nl_X, pu_I, pu_J, pu_V, r_zRET0, r_zRET1]
  by_cases h1 : x < y
  · simp [h1, show ¬ y ≤ x by omega]
  · by_cases h2 : z < x
    · simp [h1, h2, show ¬ x ≤ z by omega]
    · simp [h1, h2, show y ≤ x by omega, show x ≤ z by omega]
theorem s_rhas {a t : Nat} (ha : a < 2 ^ 31) (ht : t < 31) : wp 34 (am_ju 34 0) [aI (a : Int), aI (t : Int)] [] (sT h) Q ↔ Q (aI (if a.testBit t = true then 1 else 0)) (sT h) := by
  simp only [ju_34_0, ju_34_9, ju_34_10, r_iLD0, r_iLD1, r_iSHR, r_iCONST, r_iAND, r_IC1, r_GOTO, r_zRET, eq_self, Int.reduceLT, Int.reduceLE, Int.reduceEq, true_or, or_true, and_self, true_and, and_true, w8_0, w8_1, w8_2, w8_3, w8_4, nl_I, nl_P, nl_X, pu_I, pu_J, pu_V, bBit_n a t ht ha, r_zRET0, r_zRET1]
  by_cases hb : a.testBit t = true <;> simp [hb]
theorem s_rhas0 {a : Nat} (ha : a < 2 ^ 31) : wp 34 (am_ju 34 0) [aI (a : Int), aI 0] [] (sT h) Q ↔ Q (aI (if a.testBit 0 = true then 1 else 0)) (sT h) := s_rhas (t := 0) ha (by decide)
theorem s_rhas1 {a : Nat} (ha : a < 2 ^ 31) : wp 34 (am_ju 34 0) [aI (a : Int), aI 1] [] (sT h) Q ↔ Q (aI (if a.testBit 1 = true then 1 else 0)) (sT h) := s_rhas (t := 1) ha (by decide)
theorem s_rhas2 {a : Nat} (ha : a < 2 ^ 31) : wp 34 (am_ju 34 0) [aI (a : Int), aI 2] [] (sT h) Q ↔ Q (aI (if a.testBit 2 = true then 1 else 0)) (sT h) := s_rhas (t := 2) ha (by decide)
theorem s_bagAt (hb : -100 ≤ b ∧ b ≤ 100) : wp 18 (am_ju 18 0) [aI b] [] (sT h) Q ↔ Q (aI (6 + 4 * b)) (sT h) := by
  simp (disch := first | assumption | omega | exact w8_0 | exact w8_1 _ | exact w8_2 _ _ | exact w8_3 _ _ _ | exact w8_4 _ _ _ _ | exact nl_I _ | exact nl_P _ | exact nl_X | decide | exact w8_5 _ _ _ _ _) only [ju_18_0, r_bPUSH, r_iCONST, r_iLD0, r_iMUL, r_iADD, r_iRET, eq_self, Int.reduceLT, Int.reduceLE, Int.reduceEq, true_or, or_true, and_self, true_and, and_true, w8_0, w8_1, w8_2, w8_3, w8_4, nl_I, nl_P, nl_X, pu_I, pu_J, pu_V, w3_id, Int.add_zero]
theorem s_thingAt (hb : -100 ≤ b ∧ b ≤ 100) : wp 25 (am_ju 25 0) [aI b] [] (sT h) Q ↔ Q (aI (18 + 6 * b)) (sT h) := by
  simp (disch := first | assumption | omega | exact w8_0 | exact w8_1 _ | exact w8_2 _ _ | exact w8_3 _ _ _ | exact w8_4 _ _ _ _ | exact nl_I _ | exact nl_P _ | exact nl_X | decide | exact w8_5 _ _ _ _ _) only [ju_25_0, r_bPUSH, r_iLD0, r_iMUL, r_iADD, r_iRET, eq_self, Int.reduceLT, Int.reduceLE, Int.reduceEq, true_or, or_true, and_self, true_and, and_true, w8_0, w8_1, w8_2, w8_3, w8_4, nl_I, nl_P, nl_X, pu_I, pu_J, pu_V, w3_id, Int.add_zero]
theorem s_least : wp 122 (am_ju 122 0) [aI x, aI y] [] (sT h) Q ↔ Q (aI (if y ≤ x then y else x)) (sT h) := by
  simp only [ju_122_0, ju_122_5, ju_122_6, r_iLD0, r_iLD1, r_IC3, r_GOTO, r_iRET, eq_self, Int.reduceLT, Int.reduceLE, Int.reduceEq, true_or, or_true, and_self, true_and, and_true, w8_0, w8_1, w8_2, w8_3, w8_4, nl_I, nl_P, nl_X, pu_I, pu_J, pu_V]
  by_cases h1 : y ≤ x <;> simp [h1]
theorem s_strengthOf (hk : kd c = 20) (hl : ln c = 238) (hb : 0 ≤ b ∧ b < 3) {k w r : Int} (ek : h c (6 + 4 * b) = k) (ew : h c (6 + 4 * b + 1) = w) (er : h c (6 + 4 * b + 2) = r) (hkk : 0 ≤ k ∧ k ≤ 3) (hw : 0 ≤ w ∧ w ≤ 999) (hr : 0 ≤ r ∧ r ≤ 999) (hp : 0 ≤ pl ∧ pl ≤ 3) : wp 53 (am_ju 53 0) [aP c, aI b, aI pl, aX, aX, aX] [] (sT h) Q ↔ Q (aI (stren k w r pl)) (sT h) := by
  have hp4 : pl = 0 ∨ pl = 1 ∨ pl = 2 ∨ pl = 3 := by omega
  have hk4 : k = 0 ∨ k = 1 ∨ k = 2 ∨ k = 3 := by omega
  have key : ∀ V, stren k w r pl = mx0 V → ((if 0 ≤ V then Q (aI V) (sT h) else Q (aI 0) (sT h)) ↔ Q (aI (stren k w r pl)) (sT h)) := by
    intro V e
    rw [e, mx0]
    by_cases h1 : 0 < V
    · rw [if_pos (by omega), if_pos h1]
    · by_cases h2 : 0 ≤ V
      · rw [if_pos h2, if_neg h1, show V = 0 by omega]
      · rw [if_neg h2, if_neg h1]
  rcases hk4 with rfl | rfl | rfl | rfl <;> rcases hp4 with rfl | rfl | rfl | rfl <;>
    (simp (disch := first | assumption | omega | exact w8_0 | exact w8_1 _ | exact w8_2 _ _ | exact w8_3 _ _ _ | exact w8_4 _ _ _ _ | exact nl_I _ | exact nl_P _ | exact nl_X | decide | exact w8_5 _ _ _ _ _) only [ju_53_0, ju_53_23, ju_53_24, ju_53_40, ju_53_41, ju_53_49, ju_53_50, ju_53_53, ju_53_67, ju_53_68, ju_53_82, ju_53_83, ju_53_85, ju_53_89, ju_53_90, r_iLD1, cl_18, r_iST3, r_aLD0, r_iLD3, r_iCONST, r_iADD, r_iALDc, r_iALDs, r_iST4, r_iLD4, r_IC4, r_bPUSH, r_iSUB, r_iLD2, r_IF1, r_GOTO, r_iMUL, r_iST5, r_iLD5, cl_17, r_IF0, r_IC1, r_IF3, r_iRET, eq_self, Int.reduceLT, Int.reduceLE, Int.reduceEq, true_or, or_true, and_self, true_and, and_true, w8_0, w8_1, w8_2, w8_3, w8_4, nl_I, nl_P, nl_X, pu_I, pu_J, pu_V, w3_id, Int.add_zero, s_bagAt, s_in, b01, ek, ew, er, if_true, if_false, not_true, not_false_eq_true, and_false, false_and, Int.reduceNeg]
     refine key _ ?_
     unfold stren paper thin
     simp only [Int.reduceEq, if_true, if_false]
     first | rfl | (congr 1; omega))
/-- sums and sets of the reference's rows -/
def rW (h : am_F) (c b : Int) (wh : Int) (t : Nat) : Int := if h c (18 + 6 * t + 5) = b then h c (18 + 6 * t + wh) else 0
theorem rW_r {n M : Nat} {wh : Int} (hf : ∀ t : Nat, t < n → 0 ≤ h c (18 + 6 * t + wh) ∧ h c (18 + 6 * t + wh) ≤ M) : ∀ t : Nat, t ≤ n → 0 ≤ sumF (rW h c b wh) t ∧ sumF (rW h c b wh) t ≤ t * M := by
  intro t
  induction t with
  | zero => intro _; exact ⟨Int.le_refl _, by simp [sumF]⟩
  | succ t ih =>
    intro ht
    have ih := ih (by omega)
    have := hf t (by omega)
    have e2 : ((t + 1 : Nat) : Int) * M = t * M + M := by rw [Int.natCast_add, Int.add_mul]; simp
    rw [sumF]
    unfold rW at ih ⊢
    split <;> omega
theorem lp_sum (hk : kd c = 20) (hl : ln c = 238) {n : Nat} (h8 : n ≤ 8) (hn : h c 1 = (n : Int)) {wh : Int} (hwh : 0 ≤ wh ∧ wh ≤ 4) (hf : ∀ t : Nat, t < n → 0 ≤ h c (18 + 6 * t + wh) ∧ h c (18 + 6 * t + wh) ≤ (99 : Nat)) : ∀ (k t : Nat), t + k = n → (wp 46 (am_ju 46 4) [aP c, aI b, aI wh, aI (sumF (rW h c b wh) t), aI (t : Int)] [] (sT h) Q ↔ Q (aI (sumF (rW h c b wh) n)) (sT h)) := by
  intro k
  induction k with
  | zero =>
    intro t ht
    have ht : t = n := by omega
    subst ht
    simp (disch := first | assumption | omega | exact w8_0 | exact w8_1 _ | exact w8_2 _ _ | exact w8_3 _ _ _ | exact w8_4 _ _ _ _ | exact nl_I _ | exact nl_P _ | exact nl_X | decide | exact w8_5 _ _ _ _ _) only [ju_46_4, ju_46_30, r_iCONST, r_iST3, r_iST4, r_iLD4, r_aLD0, r_iALDc, r_iALDs, r_IC3, r_iLD3, cl_25, r_iADD, r_iLD1, r_IC1, r_iLD2, r_GOTO, r_IINC4, r_iRET, eq_self, Int.reduceLT, Int.reduceLE, Int.reduceEq, true_or, or_true, and_self, true_and, and_true, w8_0, w8_1, w8_2, w8_3, w8_4, nl_I, nl_P, nl_X, pu_I, pu_J, pu_V, w3_id, Int.add_zero, hn]
    rw [if_pos (by omega)]
  | succ k ih =>
    intro t ht
    have hr := rW_r (b := b) hf t (by omega)
    have hw : w3 ((t : Int) + 1) = ((t + 1 : Nat) : Int) := w3_id (by omega) (by omega)
    have hft := hf t (by omega)
    have ih := ih (t + 1) (by omega)
    rw [sumF, show rW h c b wh t = if h c (18 + 6 * t + 5) = b then h c (18 + 6 * t + wh) else 0 from rfl] at ih
    rw [ju_46_4]
    simp (disch := first | assumption | omega | exact w8_0 | exact w8_1 _ | exact w8_2 _ _ | exact w8_3 _ _ _ | exact w8_4 _ _ _ _ | exact nl_I _ | exact nl_P _ | exact nl_X | decide | exact w8_5 _ _ _ _ _) only [ju_46_25, ju_46_26, r_iCONST, r_iST3, r_iST4, r_iLD4, r_aLD0, r_iALDc, r_iALDs, r_IC3, r_iLD3, cl_25, r_iADD, r_iLD1, r_IC1, r_iLD2, r_GOTO, r_IINC4, r_iRET, eq_self, Int.reduceLT, Int.reduceLE, Int.reduceEq, true_or, or_true, and_self, true_and, and_true, w8_0, w8_1, w8_2, w8_3, w8_4, nl_I, nl_P, nl_X, pu_I, pu_J, pu_V, w3_id, Int.add_zero, hn, s_thingAt, hw]
    rw [if_neg (by omega)]
    by_cases hb : h c (18 + 6 * t + 5) = b
    · rw [if_pos hb] at ih
      rw [if_neg (by simpa using hb)]
      exact ih
    · rw [if_neg hb] at ih
      rw [if_pos hb]
      simpa using ih
theorem s_sum (hk : kd c = 20) (hl : ln c = 238) {n : Nat} (h8 : n ≤ 8) (hn : h c 1 = (n : Int)) {wh : Int} (hwh : 0 ≤ wh ∧ wh ≤ 4) (hf : ∀ t : Nat, t < n → 0 ≤ h c (18 + 6 * t + wh) ∧ h c (18 + 6 * t + wh) ≤ (99 : Nat)) : wp 46 (am_ju 46 0) [aP c, aI b, aI wh, aX, aX] [] (sT h) Q ↔ Q (aI (sumF (rW h c b wh) n)) (sT h) := by
  rw [ju_46_0]
  simp only [r_iCONST, r_iST3, r_iST4, r_iLD4, r_aLD0, r_iALD, r_iALDs, r_IC3, r_iLD3, cl_25, r_iADD, r_iLD1, r_IC1, r_iLD2, r_GOTO, r_IINC4, r_iRET, eq_self, Int.reduceLT, Int.reduceLE, Int.reduceEq, true_or, or_true, and_self, true_and, and_true, w8_0, w8_1, w8_2, w8_3, w8_4, nl_I, nl_P, nl_X, pu_I, pu_J, pu_V]
  exact lp_sum hk hl h8 hn hwh hf n 0 (Nat.zero_add n)
theorem lp_thingsIn (hk : kd c = 20) (hl : ln c = 238) {n : Nat} (h8 : n ≤ 8) (hn : h c 1 = (n : Int)) : ∀ (k t : Nat), t + k = n → (wp 45 (am_ju 45 4) [aP c, aI b, aI ((setF (fun t => decide (h c (18 + 6 * t + 5) = b)) t : Nat) : Int), aI (t : Int)] [] (sT h) Q ↔ Q (aI ((setF (fun t => decide (h c (18 + 6 * t + 5) = b)) n : Nat) : Int)) (sT h)) := by
  intro k
  induction k with
  | zero =>
    intro t ht
    have ht : t = n := by omega
    subst ht
    simp (disch := first | assumption | omega | exact w8_0 | exact w8_1 _ | exact w8_2 _ _ | exact w8_3 _ _ _ | exact w8_4 _ _ _ _ | exact nl_I _ | exact nl_P _ | exact nl_X | decide | exact w8_5 _ _ _ _ _) only [ju_45_4, ju_45_27, r_iCONST, r_iST2, r_iST3, r_iLD3, r_aLD0, r_iALDc, r_iALDs, r_IC3, r_iLD2, cl_25, r_iADD, r_iLD1, r_IC1, r_iSHL, r_GOTO, r_iOR, r_IINC3, r_iRET, eq_self, Int.reduceLT, Int.reduceLE, Int.reduceEq, true_or, or_true, and_self, true_and, and_true, w8_0, w8_1, w8_2, w8_3, w8_4, nl_I, nl_P, nl_X, pu_I, pu_J, pu_V, w3_id, Int.add_zero, hn]
    rw [if_pos (by omega)]
  | succ k ih =>
    intro t ht
    have hs : setF (fun t => decide (h c (18 + 6 * t + 5) = b)) (t + 1) = setF (fun t => decide (h c (18 + 6 * t + 5) = b)) t ||| (if decide (h c (18 + 6 * t + 5) = b) = true then 2 ^ t else 0) := rfl
    have hlt := setF_lt (fun t => decide (h c (18 + 6 * t + 5) = b)) t
    have h31 : 2 ^ t < 2 ^ 31 := Nat.pow_lt_pow_right (by decide) (by omega)
    have ih := ih (t + 1) (by omega)
    rw [hs] at ih
    have hw : w3 ((t : Int) + 1) = ((t + 1 : Nat) : Int) := w3_id (by omega) (by omega)
    rw [ju_45_4]
    simp (disch := first | assumption | omega | exact w8_0 | exact w8_1 _ | exact w8_2 _ _ | exact w8_3 _ _ _ | exact w8_4 _ _ _ _ | exact nl_I _ | exact nl_P _ | exact nl_X | decide | exact w8_5 _ _ _ _ _) only [ju_45_22, ju_45_23, r_iCONST, r_iST2, r_iST3, r_iLD3, r_aLD0, r_iALDc, r_iALDs, r_IC3, r_iLD2, cl_25, r_iADD, r_iLD1, r_IC1, r_iSHL, r_GOTO, r_iOR, r_IINC3, r_iRET, eq_self, Int.reduceLT, Int.reduceLE, Int.reduceEq, true_or, or_true, and_self, true_and, and_true, w8_0, w8_1, w8_2, w8_3, w8_4, nl_I, nl_P, nl_X, pu_I, pu_J, pu_V, w3_id, Int.add_zero, hn, s_thingAt, hw]
    rw [if_neg (by omega)]
    by_cases hp : h c (18 + 6 * t + 5) = b
    · rw [if_neg (by simpa using hp), show (1 : Int) = ((1 : Nat) : Int) from rfl, bShl_n 1 t (by omega) (by omega), Nat.one_mul, bOr_n _ _ (by omega) h31]
      simpa [hp] using ih
    · rw [if_pos hp, show (0 : Int) = ((0 : Nat) : Int) from rfl, bOr_n _ _ (by omega) (by decide), Nat.or_zero]
      simpa [hp] using ih
theorem s_thingsIn (hk : kd c = 20) (hl : ln c = 238) {n : Nat} (h8 : n ≤ 8) (hn : h c 1 = (n : Int)) : wp 45 (am_ju 45 0) [aP c, aI b, aX, aX] [] (sT h) Q ↔ Q (aI ((setF (fun t => decide (h c (18 + 6 * t + 5) = b)) n : Nat) : Int)) (sT h) := by
  rw [ju_45_0]
  simp only [r_iCONST, r_iST2, r_iST3, r_iLD3, r_aLD0, r_iALD, r_iALDs, r_IC3, r_iLD2, cl_25, r_iADD, r_iLD1, r_IC1, r_iSHL, r_GOTO, r_iOR, r_IINC3, r_iRET, eq_self, Int.reduceLT, Int.reduceLE, Int.reduceEq, true_or, or_true, and_self, true_and, and_true, w8_0, w8_1, w8_2, w8_3, w8_4, nl_I, nl_P, nl_X, pu_I, pu_J, pu_V]
  exact lp_thingsIn hk hl h8 hn n 0 (Nat.zero_add n)
end MD
end
section
/-- a row of the reference: n things, their numbers in range -/
def tk (h : am_F) (c : Int) (n : Nat) : Prop := ∀ t : Nat, t < n → (0 ≤ h c (18 + 6 * t + 0) ∧ h c (18 + 6 * t + 0) ≤ (30 : Nat)) ∧ (0 ≤ h c (18 + 6 * t + 1) ∧ h c (18 + 6 * t + 1) ≤ (5 : Nat)) ∧ (0 ≤ h c (18 + 6 * t + 2) ∧ h c (18 + 6 * t + 2) ≤ (5 : Nat))
def mS (h : am_F) (c b : Int) (n : Nat) : Nat := setF (fun t => decide (h c (18 + 6 * t + 5) = b)) n
theorem rW_up {h : am_F} {c b i v wh : Int} (hi : i < 18) (hw : 0 ≤ wh) : rW (up h c i v) c b wh = rW h c b wh := by
  funext t
  unfold rW
  rw [up_k (by omega), up_k (by omega)]
theorem mS_up {h : am_F} {c b i v : Int} {n : Nat} (hi : i < 18) : mS (up h c i v) c b n = mS h c b n := by
  unfold mS
  congr 1
  funext t
  rw [up_k (by omega)]
theorem tk_up {h : am_F} {c i v : Int} {n : Nat} (hi : i < 18) (ht : tk h c n) : tk (up h c i v) c n := by
  intro t h1
  rw [up_k (by omega), up_k (by omega), up_k (by omega)]
  exact ht t h1
section ME
variable {h : am_F} {Q : am_V → am_S → Prop} {c b pl j so v : Int} {n : Nat}
theorem s_sum0 (hk : kd c = 20) (hl : ln c = 238) (h8 : n ≤ 8) (hn : h c 1 = (n : Int)) (ht : tk h c n) : wp 46 (am_ju 46 0) [aP c, aI b, aI 0, aX, aX] [] (sT h) Q ↔ Q (aI (sumF (rW h c b 0) n)) (sT h) := s_sum hk hl h8 hn (by omega) (fun t h1 => by have := (ht t h1).1; omega)
theorem s_sum1 (hk : kd c = 20) (hl : ln c = 238) (h8 : n ≤ 8) (hn : h c 1 = (n : Int)) (ht : tk h c n) : wp 46 (am_ju 46 0) [aP c, aI b, aI 1, aX, aX] [] (sT h) Q ↔ Q (aI (sumF (rW h c b 1) n)) (sT h) := s_sum hk hl h8 hn (by omega) (fun t h1 => by have := (ht t h1).2.1; omega)
theorem s_sum2 (hk : kd c = 20) (hl : ln c = 238) (h8 : n ≤ 8) (hn : h c 1 = (n : Int)) (ht : tk h c n) : wp 46 (am_ju 46 0) [aP c, aI b, aI 2, aX, aX] [] (sT h) Q ↔ Q (aI (sumF (rW h c b 2) n)) (sT h) := s_sum hk hl h8 hn (by omega) (fun t h1 => by have := (ht t h1).2.2; omega)
theorem tk_r (h8 : n ≤ 8) (ht : tk h c n) : (0 ≤ sumF (rW h c b 0) n ∧ sumF (rW h c b 0) n ≤ 240) ∧ (0 ≤ sumF (rW h c b 1) n ∧ sumF (rW h c b 1) n ≤ 40) ∧ (0 ≤ sumF (rW h c b 2) n ∧ sumF (rW h c b 2) n ≤ 40) := by
  have h1 := rW_r (b := b) (M := 30) (fun t h1 => (ht t h1).1) n (Nat.le_refl _)
  have h2 := rW_r (b := b) (M := 5) (fun t h1 => (ht t h1).2.1) n (Nat.le_refl _)
  have h3 := rW_r (b := b) (M := 5) (fun t h1 => (ht t h1).2.2) n (Nat.le_refl _)
  omega
theorem s_forceOn (hk : kd c = 20) (hl : ln c = 238) (h8 : n ≤ 8) (hn : h c 1 = (n : Int)) (ht : tk h c n) (hb : 0 ≤ b ∧ b < 3) {g : Nat} (hg : g < 16) (eg : h c (6 + 4 * b + 3) = (g : Int)) (hj : 0 ≤ j ∧ j ≤ 7) : wp 58 (am_ju 58 0) [aP c, aI b, aI pl, aI j, aX, aX, aX] [] (sT h) Q ↔ Q (aI (forc g (sumF (rW h c b 0) n) (sumF (rW h c b 2) n) pl j)) (sT h) := by
  obtain ⟨d1, d2, d3⟩ := tk_r (b := b) h8 ht
  have hm : 0 ≤ sumF (rW h c b 0) n * (10 + j) ∧ sumF (rW h c b 0) n * (10 + j) ≤ 17000 := by
    constructor
    · exact Int.mul_nonneg d1.1 (by omega)
    · exact Int.le_trans (Int.mul_le_mul d1.2 (show 10 + j ≤ 17 by omega) (by omega) (by omega)) (by omega)
  have hwh := whH_r g
  have ew : (if g.testBit 1 = true then (0 : Int) else 1) + (if g.testBit 2 = true then 0 else 1) = whH g := rfl
  rw [ju_58_0]
  by_cases h3 : pl = 3
  · subst h3
    simp (disch := first | assumption | omega | exact w8_0 | exact w8_1 _ | exact w8_2 _ _ | exact w8_3 _ _ _ | exact w8_4 _ _ _ _ | exact nl_I _ | exact nl_P _ | exact nl_X | decide | exact w8_5 _ _ _ _ _) only [r_iLD2, r_iCONST, r_IC1, r_aLD0, r_iLD1, cl_46, r_iMUL, r_iRET, r_bPUSH, r_iLD3, r_iADD, r_iDIV, r_iST4, cl_18, r_iALDc, r_iALDs, r_iST5, r_iLD5, cl_34, r_IF0, r_GOTO, r_iST6, r_IF1, r_iLD4, r_iLD6, eq_self, Int.reduceLT, Int.reduceLE, Int.reduceEq, true_or, or_true, and_self, true_and, and_true, w8_0, w8_1, w8_2, w8_3, w8_4, nl_I, nl_P, nl_X, pu_I, pu_J, pu_V, w3_id, Int.add_zero, s_sum2 hk hl h8 hn ht, not_true, if_false]
    simp [forc]
  · simp (disch := first | assumption | omega | exact w8_0 | exact w8_1 _ | exact w8_2 _ _ | exact w8_3 _ _ _ | exact w8_4 _ _ _ _ | exact nl_I _ | exact nl_P _ | exact nl_X | decide | exact w8_5 _ _ _ _ _) only [r_iLD2, r_iCONST, r_IC1, r_aLD0, r_iLD1, cl_46, r_iMUL, r_iRET, r_bPUSH, r_iLD3, r_iADD, r_iDIV, r_iST4, cl_18, r_iALDc, r_iALDs, r_iST5, r_iLD5, cl_34, r_IF0, r_GOTO, r_iST6, r_IF1, r_iLD4, r_iLD6, eq_self, Int.reduceLT, Int.reduceLE, Int.reduceEq, true_or, or_true, and_self, true_and, and_true, w8_0, w8_1, w8_2, w8_3, w8_4, nl_I, nl_P, nl_X, pu_I, pu_J, pu_V, w3_id, Int.add_zero, if_pos, h3, not_false_eq_true, if_true]
    rw [ju_58_10]
    simp (disch := first | assumption | omega | exact w8_0 | exact w8_1 _ | exact w8_2 _ _ | exact w8_3 _ _ _ | exact w8_4 _ _ _ _ | exact nl_I _ | exact nl_P _ | exact nl_X | decide | exact w8_5 _ _ _ _ _) only [r_iLD2, r_iCONST, r_IC1, r_aLD0, r_iLD1, cl_46, r_iMUL, r_iRET, r_bPUSH, r_iLD3, r_iADD, r_iDIV, r_iST4, cl_18, r_iALDc, r_iALDs, r_iST5, r_iLD5, cl_34, r_IF0, r_GOTO, r_iST6, r_IF1, r_iLD4, r_iLD6, eq_self, Int.reduceLT, Int.reduceLE, Int.reduceEq, true_or, or_true, and_self, true_and, and_true, w8_0, w8_1, w8_2, w8_3, w8_4, nl_I, nl_P, nl_X, pu_I, pu_J, pu_V, w3_id, Int.add_zero, s_sum0 hk hl h8 hn ht, s_bagAt, eg, s_rhas1 (show g < 2 ^ 31 by omega), b01]
    rw [iDv_n hm.1 (by omega) (by omega) (by omega)]
    have hmid : ∀ x : Int, (wp 58 (am_ju 58 35) [aP c, aI b, aI pl, aI j, aI (sumF (rW h c b 0) n * (10 + j) / 10), aI (g : Int), aX] [aI x] (sT h) Q ↔ wp 58 (am_ju 58 42) [aP c, aI b, aI pl, aI j, aI (sumF (rW h c b 0) n * (10 + j) / 10), aI (g : Int), aX] [aI (if g.testBit 2 = true then 0 else 1), aI x] (sT h) Q) := by
      intro x
      rw [ju_58_35]
      simp (disch := first | assumption | omega | exact w8_0 | exact w8_1 _ | exact w8_2 _ _ | exact w8_3 _ _ _ | exact w8_4 _ _ _ _ | exact nl_I _ | exact nl_P _ | exact nl_X | decide | exact w8_5 _ _ _ _ _) only [ju_58_41, r_iLD2, r_iCONST, r_IC1, r_aLD0, r_iLD1, cl_46, r_iMUL, r_iRET, r_bPUSH, r_iLD3, r_iADD, r_iDIV, r_iST4, cl_18, r_iALDc, r_iALDs, r_iST5, r_iLD5, cl_34, r_IF0, r_GOTO, r_iST6, r_IF1, r_iLD4, r_iLD6, eq_self, Int.reduceLT, Int.reduceLE, Int.reduceEq, true_or, or_true, and_self, true_and, and_true, w8_0, w8_1, w8_2, w8_3, w8_4, nl_I, nl_P, nl_X, pu_I, pu_J, pu_V, w3_id, Int.add_zero, s_rhas2 (show g < 2 ^ 31 by omega), b01]
      by_cases h2 : g.testBit 2 = true <;> simp [h2]
    have hend : ∀ x : Int, x = whH g → (wp 58 (am_ju 58 42) [aP c, aI b, aI pl, aI j, aI (sumF (rW h c b 0) n * (10 + j) / 10), aI (g : Int), aX] [aI (if g.testBit 2 = true then 0 else 1), aI (if g.testBit 1 = true then 0 else 1)] (sT h) Q ↔ Q (aI (forc g (sumF (rW h c b 0) n) (sumF (rW h c b 2) n) pl j)) (sT h)) := by
      intro x hx
      rw [ju_58_42]
      simp only [r_iLD2, r_iCONST, r_IC1, r_aLD0, r_iLD1, cl_46, r_iMUL, r_iRET, r_bPUSH, r_iLD3, r_iADD, r_iDIV, r_iST4, cl_18, r_iALD, r_iALDs, r_iST5, r_iLD5, cl_34, r_IF0, r_GOTO, r_iST6, r_IF1, r_iLD4, r_iLD6, eq_self, Int.reduceLT, Int.reduceLE, Int.reduceEq, true_or, or_true, and_self, true_and, and_true, w8_0, w8_1, w8_2, w8_3, w8_4, nl_I, nl_P, nl_X, pu_I, pu_J, pu_V]
      rw [ew, w3_id (by omega) (by omega)]
      unfold forc
      rw [if_neg h3]
      by_cases h0 : pl = 0
      · rw [if_neg (by simpa using h0), if_pos h0]
        simp only [ju_58_55, r_iLD2, r_iCONST, r_IC1, r_aLD0, r_iLD1, cl_46, r_iMUL, r_iRET, r_bPUSH, r_iLD3, r_iADD, r_iDIV, r_iST4, cl_18, r_iALD, r_iALDs, r_iST5, r_iLD5, cl_34, r_IF0, r_GOTO, r_iST6, r_IF1, r_iLD4, r_iLD6, eq_self, Int.reduceLT, Int.reduceLE, Int.reduceEq, true_or, or_true, and_self, true_and, and_true, w8_0, w8_1, w8_2, w8_3, w8_4, nl_I, nl_P, nl_X, pu_I, pu_J, pu_V]
      · rw [if_pos h0, if_neg h0, ju_58_48]
        simp only [r_iLD2, r_iCONST, r_IC1, r_aLD0, r_iLD1, cl_46, r_iMUL, r_iRET, r_bPUSH, r_iLD3, r_iADD, r_iDIV, r_iST4, cl_18, r_iALD, r_iALDs, r_iST5, r_iLD5, cl_34, r_IF0, r_GOTO, r_iST6, r_IF1, r_iLD4, r_iLD6, eq_self, Int.reduceLT, Int.reduceLE, Int.reduceEq, true_or, or_true, and_self, true_and, and_true, w8_0, w8_1, w8_2, w8_3, w8_4, nl_I, nl_P, nl_X, pu_I, pu_J, pu_V]
        by_cases hz : whH g = 0
        · rw [if_neg (by simpa using hz), if_pos hz]
          simp only [ju_58_55, r_iLD2, r_iCONST, r_IC1, r_aLD0, r_iLD1, cl_46, r_iMUL, r_iRET, r_bPUSH, r_iLD3, r_iADD, r_iDIV, r_iST4, cl_18, r_iALD, r_iALDs, r_iST5, r_iLD5, cl_34, r_IF0, r_GOTO, r_iST6, r_IF1, r_iLD4, r_iLD6, eq_self, Int.reduceLT, Int.reduceLE, Int.reduceEq, true_or, or_true, and_self, true_and, and_true, w8_0, w8_1, w8_2, w8_3, w8_4, nl_I, nl_P, nl_X, pu_I, pu_J, pu_V]
        · rw [if_pos hz, if_neg hz, ju_58_52]
          simp only [r_iLD2, r_iCONST, r_IC1, r_aLD0, r_iLD1, cl_46, r_iMUL, r_iRET, r_bPUSH, r_iLD3, r_iADD, r_iDIV, r_iST4, cl_18, r_iALD, r_iALDs, r_iST5, r_iLD5, cl_34, r_IF0, r_GOTO, r_iST6, r_IF1, r_iLD4, r_iLD6, eq_self, Int.reduceLT, Int.reduceLE, Int.reduceEq, true_or, or_true, and_self, true_and, and_true, w8_0, w8_1, w8_2, w8_3, w8_4, nl_I, nl_P, nl_X, pu_I, pu_J, pu_V, ne_eq, hz, not_false_eq_true]
          simp only [ju_58_55, r_iLD2, r_iCONST, r_IC1, r_aLD0, r_iLD1, cl_46, r_iMUL, r_iRET, r_bPUSH, r_iLD3, r_iADD, r_iDIV, r_iST4, cl_18, r_iALD, r_iALDs, r_iST5, r_iLD5, cl_34, r_IF0, r_GOTO, r_iST6, r_IF1, r_iLD4, r_iLD6, eq_self, Int.reduceLT, Int.reduceLE, Int.reduceEq, true_or, or_true, and_self, true_and, and_true, w8_0, w8_1, w8_2, w8_3, w8_4, nl_I, nl_P, nl_X, pu_I, pu_J, pu_V]
          rw [iDv_n (Int.ediv_nonneg hm.1 (by omega)) (by have := Int.ediv_le_self 10 hm.1; omega) (by omega) (by omega)]
    by_cases h1 : g.testBit 1 = true
    · have he := hend _ rfl
      simp only [h1, if_true, not_true, if_false] at he ⊢
      rw [hmid, he]
    · have he := hend _ rfl
      simp only [h1, if_true, not_false_eq_true, if_false] at he ⊢
      rw [ju_58_34]
      simp only [r_iLD2, r_iCONST, r_IC1, r_aLD0, r_iLD1, cl_46, r_iMUL, r_iRET, r_bPUSH, r_iLD3, r_iADD, r_iDIV, r_iST4, cl_18, r_iALD, r_iALDs, r_iST5, r_iLD5, cl_34, r_IF0, r_GOTO, r_iST6, r_IF1, r_iLD4, r_iLD6, eq_self, Int.reduceLT, Int.reduceLE, Int.reduceEq, true_or, or_true, and_self, true_and, and_true, w8_0, w8_1, w8_2, w8_3, w8_4, nl_I, nl_P, nl_X, pu_I, pu_J, pu_V]
      rw [hmid]
      simpa using he
end ME
end
section
section MF
variable {h : am_F} {Q : am_V → am_S → Prop} {c b pl j so v : Int} {n : Nat}
theorem min999 (x : Int) : (if x ≤ 999 then x else (999 : Int)) = if x < 999 then x else 999 := by
  by_cases h1 : x < 999
  · rw [if_pos h1, if_pos (by omega)]
  · by_cases h2 : x ≤ 999
    · rw [if_pos h2, if_neg h1]; omega
    · rw [if_neg h2, if_neg h1]
set_option maxHeartbeats 1000000 in
theorem s_ages (hk : kd c = 20) (hl : ln c = 238) (h8 : n ≤ 8) (hn : h c 1 = (n : Int)) (ht : tk h c n) (hb : 0 ≤ b ∧ b < 3) {w r : Int} (ew : h c (6 + 4 * b + 1) = w) (er : h c (6 + 4 * b + 2) = r) (hw : 0 ≤ w ∧ w ≤ 999) (hr : 0 ≤ r ∧ r ≤ 999) : wp 123 (am_ju 123 0) [aP c, aI b, aI so, aX] [] (sT h) Q ↔ Q aV (sT (up (up h c (6 + 4 * b + 1) (ageW w (sumF (rW h c b 1) n))) c (6 + 4 * b + 2) (ageR r (sumF (rW h c b 2) n) so))) := by
  obtain ⟨d1, d2, d3⟩ := tk_r (b := b) h8 ht
  rw [ju_123_0]
  simp (disch := first | assumption | omega | exact w8_0 | exact w8_1 _ | exact w8_2 _ _ | exact w8_3 _ _ _ | exact w8_4 _ _ _ _ | exact nl_I _ | exact nl_P _ | exact nl_X | decide | exact w8_5 _ _ _ _ _) only [r_iLD1, cl_18, r_iST3, r_aLD0, r_iLD3, r_iCONST, r_iADD, r_sPUSH, r_iALDc, r_iALDs, cl_46, cl_122, r_iASTc, r_iLD2, r_IC1, r_GOTO, r_vRET, eq_self, Int.reduceLT, Int.reduceLE, Int.reduceEq, true_or, or_true, and_self, true_and, and_true, w8_0, w8_1, w8_2, w8_3, w8_4, nl_I, nl_P, nl_X, pu_I, pu_J, pu_V, w3_id, Int.add_zero, s_bagAt, ew, s_sum1 hk hl h8 hn ht, s_least, min999]
  rw [show (if w + sumF (rW h c b 1) n < 999 then w + sumF (rW h c b 1) n else 999) = ageW w (sumF (rW h c b 1) n) from rfl]
  have er2 : up h c (6 + 4 * b + 1) (ageW w (sumF (rW h c b 1) n)) c (6 + 4 * b + 2) = r := by rw [up_k (by omega)]; exact er
  have hn2 : up h c (6 + 4 * b + 1) (ageW w (sumF (rW h c b 1) n)) c 1 = (n : Int) := by rw [up_k (by omega)]; exact hn
  have ht2 : tk (up h c (6 + 4 * b + 1) (ageW w (sumF (rW h c b 1) n))) c n := tk_up (by omega) ht
  by_cases h4 : so = 4
  · subst h4
    simp (disch := first | assumption | omega | exact w8_0 | exact w8_1 _ | exact w8_2 _ _ | exact w8_3 _ _ _ | exact w8_4 _ _ _ _ | exact nl_I _ | exact nl_P _ | exact nl_X | decide | exact w8_5 _ _ _ _ _) only [er2, not_true, if_false, ju_123_41, r_iLD1, cl_18, r_iST3, r_aLD0, r_iLD3, r_iCONST, r_iADD, r_sPUSH, r_iALDc, r_iALDs, cl_46, cl_122, r_iASTc, r_iLD2, r_IC1, r_GOTO, r_vRET, eq_self, Int.reduceLT, Int.reduceLE, Int.reduceEq, true_or, or_true, and_self, true_and, and_true, w8_0, w8_1, w8_2, w8_3, w8_4, nl_I, nl_P, nl_X, pu_I, pu_J, pu_V, w3_id, Int.add_zero, s_least, min999]
    simp [ageR]
  · simp (disch := first | assumption | omega | exact w8_0 | exact w8_1 _ | exact w8_2 _ _ | exact w8_3 _ _ _ | exact w8_4 _ _ _ _ | exact nl_I _ | exact nl_P _ | exact nl_X | decide | exact w8_5 _ _ _ _ _) only [er2, h4, not_false_eq_true, if_true, ju_123_35, ju_123_41, r_iLD1, cl_18, r_iST3, r_aLD0, r_iLD3, r_iCONST, r_iADD, r_sPUSH, r_iALDc, r_iALDs, cl_46, cl_122, r_iASTc, r_iLD2, r_IC1, r_GOTO, r_vRET, eq_self, Int.reduceLT, Int.reduceLE, Int.reduceEq, true_or, or_true, and_self, true_and, and_true, w8_0, w8_1, w8_2, w8_3, w8_4, nl_I, nl_P, nl_X, pu_I, pu_J, pu_V, w3_id, Int.add_zero, s_sum2 hk hl h8 hn2 ht2, rW_up (show 6 + 4 * b + 1 < 18 by omega) (show (0 : Int) ≤ 2 by decide), s_least, min999]
    simp [ageR, h4]
theorem st_gv (hk : kd c = 20) (hl : ln c = 238) (h8 : n ≤ 8) (hn : h c 1 = (n : Int)) (ht : tk h c n) (hb : 0 ≤ b ∧ b < 3) {k w r : Int} (ek : h c (6 + 4 * b) = k) (ew : h c (6 + 4 * b + 1) = w) (er : h c (6 + 4 * b + 2) = r) (hkk : 0 ≤ k ∧ k ≤ 3) (hw : 0 ≤ w ∧ w ≤ 999) (hr : 0 ≤ r ∧ r ≤ 999) {g : Nat} (hg : g < 16) (eg : h c (6 + 4 * b + 3) = (g : Int)) (hj : 0 ≤ j ∧ j ≤ 7) {p : Nat} (hp : p < 4) {v : am_V} : wp 124 (am_ju 124 2) [aP c, aI b, aI j, aI (p : Int), v] [] (sT h) Q ↔ if wkB k w r g (sumF (rW h c b 0) n) (sumF (rW h c b 2) n) j p = true then Q (aI (p : Int)) (sT h) else wp 124 (am_ju 124 2) [aP c, aI b, aI j, aI ((p + 1 : Nat) : Int), aI (if g.testBit p = true then 0 else 1)] [] (sT h) Q := by
  have hw3 : w3 ((p : Int) + 1) = ((p + 1 : Nat) : Int) := w3_id (by omega) (by omega)
  conv => lhs; rw [ju_124_2]
  simp (disch := first | assumption | omega | exact w8_0 | exact w8_1 _ | exact w8_2 _ _ | exact w8_3 _ _ _ | exact w8_4 _ _ _ _ | exact nl_I _ | exact nl_P _ | exact nl_X | decide | exact w8_5 _ _ _ _ _) only [r_iCONST, r_iST3, r_iLD3, r_IC3, r_aLD0, r_iLD1, cl_18, r_iADD, r_iALDc, r_iALDs, cl_34, r_IF1, r_GOTO, r_iST4, r_iLD4, r_IF0, r_iLD2, cl_58, cl_53, r_IC5, r_iRET, r_IINC3, eq_self, Int.reduceLT, Int.reduceLE, Int.reduceEq, true_or, or_true, and_self, true_and, and_true, w8_0, w8_1, w8_2, w8_3, w8_4, nl_I, nl_P, nl_X, pu_I, pu_J, pu_V, w3_id, Int.add_zero, s_bagAt, eg, s_rhas (show g < 2 ^ 31 by omega) (show p < 31 by omega), b01]
  rw [if_neg (by omega)]
  unfold wkB
  by_cases hb2 : g.testBit p = true
  · simp only [hb2, not_true, if_true, if_false, not_false_eq_true, Bool.not_true, Bool.false_and]
    simp (disch := first | assumption | omega | exact w8_0 | exact w8_1 _ | exact w8_2 _ _ | exact w8_3 _ _ _ | exact w8_4 _ _ _ _ | exact nl_I _ | exact nl_P _ | exact nl_X | decide | exact w8_5 _ _ _ _ _) only [ju_124_16, ju_124_17, ju_124_32, r_iCONST, r_iST3, r_iLD3, r_IC3, r_aLD0, r_iLD1, cl_18, r_iADD, r_iALDc, r_iALDs, cl_34, r_IF1, r_GOTO, r_iST4, r_iLD4, r_IF0, r_iLD2, cl_58, cl_53, r_IC5, r_iRET, r_IINC3, eq_self, Int.reduceLT, Int.reduceLE, Int.reduceEq, true_or, or_true, and_self, true_and, and_true, w8_0, w8_1, w8_2, w8_3, w8_4, nl_I, nl_P, nl_X, pu_I, pu_J, pu_V, w3_id, Int.add_zero, hw3, if_true]
    simp
  · simp only [hb2, not_true, if_true, if_false, not_false_eq_true]
    simp (disch := first | assumption | omega | exact w8_0 | exact w8_1 _ | exact w8_2 _ _ | exact w8_3 _ _ _ | exact w8_4 _ _ _ _ | exact nl_I _ | exact nl_P _ | exact nl_X | decide | exact w8_5 _ _ _ _ _) only [ju_124_17, r_iCONST, r_iST3, r_iLD3, r_IC3, r_aLD0, r_iLD1, cl_18, r_iADD, r_iALDc, r_iALDs, cl_34, r_IF1, r_GOTO, r_iST4, r_iLD4, r_IF0, r_iLD2, cl_58, cl_53, r_IC5, r_iRET, r_IINC3, eq_self, Int.reduceLT, Int.reduceLE, Int.reduceEq, true_or, or_true, and_self, true_and, and_true, w8_0, w8_1, w8_2, w8_3, w8_4, nl_I, nl_P, nl_X, pu_I, pu_J, pu_V, w3_id, Int.add_zero, s_forceOn hk hl h8 hn ht hb hg eg hj, s_strengthOf hk hl hb ek ew er hkk hw hr (show 0 ≤ (p : Int) ∧ (p : Int) ≤ 3 by omega), hw3]
    by_cases hf : stren k w r p < forc g (sumF (rW h c b 0) n) (sumF (rW h c b 2) n) p j
    · simp [hf, show ¬ forc g (sumF (rW h c b 0) n) (sumF (rW h c b 2) n) p j ≤ stren k w r p by omega, hb2]
    · simp (disch := first | assumption | omega | exact w8_0 | exact w8_1 _ | exact w8_2 _ _ | exact w8_3 _ _ _ | exact w8_4 _ _ _ _ | exact nl_I _ | exact nl_P _ | exact nl_X | decide | exact w8_5 _ _ _ _ _) only [ju_124_32, r_iCONST, r_iST3, r_iLD3, r_IC3, r_aLD0, r_iLD1, cl_18, r_iADD, r_iALDc, r_iALDs, cl_34, r_IF1, r_GOTO, r_iST4, r_iLD4, r_IF0, r_iLD2, cl_58, cl_53, r_IC5, r_iRET, r_IINC3, eq_self, Int.reduceLT, Int.reduceLE, Int.reduceEq, true_or, or_true, and_self, true_and, and_true, w8_0, w8_1, w8_2, w8_3, w8_4, nl_I, nl_P, nl_X, pu_I, pu_J, pu_V, w3_id, Int.add_zero, hw3]
      simp [hf, show forc g (sumF (rW h c b 0) n) (sumF (rW h c b 2) n) p j ≤ stren k w r p by omega, hb2]
theorem s_gives (hk : kd c = 20) (hl : ln c = 238) (h8 : n ≤ 8) (hn : h c 1 = (n : Int)) (ht : tk h c n) (hb : 0 ≤ b ∧ b < 3) {k w r : Int} (ek : h c (6 + 4 * b) = k) (ew : h c (6 + 4 * b + 1) = w) (er : h c (6 + 4 * b + 2) = r) (hkk : 0 ≤ k ∧ k ≤ 3) (hw : 0 ≤ w ∧ w ≤ 999) (hr : 0 ≤ r ∧ r ≤ 999) {g : Nat} (hg : g < 16) (eg : h c (6 + 4 * b + 3) = (g : Int)) (hj : 0 ≤ j ∧ j ≤ 7) (hso : so ≠ 4) : wp 124 (am_ju 124 0) [aP c, aI b, aI j, aX, aX] [] (sT h) Q ↔ Q (aI (weak k w r g (sumF (rW h c b 0) n) (sumF (rW h c b 2) n) so j)) (sT h) := by
  have st : ∀ (p : Nat) (v : am_V), p < 4 → _ := fun p v hp => st_gv (Q := Q) (v := v) hk hl h8 hn ht hb ek ew er hkk hw hr hg eg hj (p := p) hp
  have s4 : ∀ v, wp 124 (am_ju 124 2) [aP c, aI b, aI j, aI ((3 + 1 : Nat) : Int), v] [] (sT h) Q ↔ Q (aI (-1)) (sT h) := by
    intro v
    rw [ju_124_2]
    simp only [ju_124_34, r_iCONST, r_iST3, r_iLD3, r_IC3, r_aLD0, r_iLD1, cl_18, r_iADD, r_iALD, r_iALDs, cl_34, r_IF1, r_GOTO, r_iST4, r_iLD4, r_IF0, r_iLD2, cl_58, cl_53, r_IC5, r_iRET, r_IINC3, eq_self, Int.reduceLT, Int.reduceLE, Int.reduceEq, true_or, or_true, and_self, true_and, and_true, w8_0, w8_1, w8_2, w8_3, w8_4, nl_I, nl_P, nl_X, pu_I, pu_J, pu_V]
    rw [if_pos (by decide)]
  have s0 := st 0 aX (by decide)
  have s1 := fun v => st 1 v (by decide)
  have s2 := fun v => st 2 v (by decide)
  have s3 := fun v => st 3 v (by decide)
  rw [ju_124_0]
  simp only [r_iCONST, r_iST3, r_iLD3, r_IC3, r_aLD0, r_iLD1, cl_18, r_iADD, r_iALD, r_iALDs, cl_34, r_IF1, r_GOTO, r_iST4, r_iLD4, r_IF0, r_iLD2, cl_58, cl_53, r_IC5, r_iRET, r_IINC3, eq_self, Int.reduceLT, Int.reduceLE, Int.reduceEq, true_or, or_true, and_self, true_and, and_true, w8_0, w8_1, w8_2, w8_3, w8_4, nl_I, nl_P, nl_X, pu_I, pu_J, pu_V]
  simp only [show ((0 : Nat) : Int) = 0 from rfl] at s0
  rw [s0, s1, s2, s3, s4]
  unfold weak
  rw [if_neg hso]
  (repeat' split) <;> simp_all
theorem s_falls (hk : kd c = 20) (hl : ln c = 238) (h8 : n ≤ 8) (hn : h c 1 = (n : Int)) (hb : 0 ≤ b ∧ b < 3) {g : Nat} (hg : g < 16) (eg : h c (6 + 4 * b + 3) = (g : Int)) : wp 125 (am_ju 125 0) [aP c, aI b, aI pl, aX, aX] [] (sT h) Q ↔ Q (aI (fallN pl g (mS h c b n) : Int)) (sT h) := by
  have hS : mS h c b n < 256 := Nat.lt_of_lt_of_le (setF_lt _ n) (Nat.pow_le_pow_right (n := 2) (j := 8) (by decide) h8)
  have hlo := (lo_ok (mS h c b n) hS).1
  rw [ju_125_0]
  simp (disch := first | assumption | omega | exact w8_0 | exact w8_1 _ | exact w8_2 _ _ | exact w8_3 _ _ _ | exact w8_4 _ _ _ _ | exact nl_I _ | exact nl_P _ | exact nl_X | decide | exact w8_5 _ _ _ _ _) only [r_aLD0, r_iLD1, cl_45, r_iST3, r_iLD2, r_iCONST, r_IC1, r_iLD3, r_iNEG, r_iAND, r_iRET, cl_18, r_iADD, r_iALDc, r_iALDs, r_iST4, r_iLD4, cl_34, r_IF1, r_IF0, r_GOTO, eq_self, Int.reduceLT, Int.reduceLE, Int.reduceEq, true_or, or_true, and_self, true_and, and_true, w8_0, w8_1, w8_2, w8_3, w8_4, nl_I, nl_P, nl_X, pu_I, pu_J, pu_V, w3_id, Int.add_zero, s_thingsIn hk hl h8 hn]
  rw [show setF (fun t => decide (h c (18 + 6 * t + 5) = b)) n = mS h c b n from rfl]
  rw [show bAnd ((mS h c b n : Nat) : Int) (w3 (-((mS h c b n : Nat) : Int))) = lo ((mS h c b n : Nat) : Int) from rfl, hlo]
  unfold fallN
  by_cases h3 : pl = 3
  · simp [h3]
  · simp only [h3, not_false_eq_true, if_true, if_false]
    rw [ju_125_12]
    simp (disch := first | assumption | omega | exact w8_0 | exact w8_1 _ | exact w8_2 _ _ | exact w8_3 _ _ _ | exact w8_4 _ _ _ _ | exact nl_I _ | exact nl_P _ | exact nl_X | decide | exact w8_5 _ _ _ _ _) only [ju_125_31, ju_125_33, ju_125_34, r_aLD0, r_iLD1, cl_45, r_iST3, r_iLD2, r_iCONST, r_IC1, r_iLD3, r_iNEG, r_iAND, r_iRET, cl_18, r_iADD, r_iALDc, r_iALDs, r_iST4, r_iLD4, cl_34, r_IF1, r_IF0, r_GOTO, eq_self, Int.reduceLT, Int.reduceLE, Int.reduceEq, true_or, or_true, and_self, true_and, and_true, w8_0, w8_1, w8_2, w8_3, w8_4, nl_I, nl_P, nl_X, pu_I, pu_J, pu_V, w3_id, Int.add_zero, s_bagAt, eg, s_rhas0 (show g < 2 ^ 31 by omega), s_rhas1 (show g < 2 ^ 31 by omega), s_rhas2 (show g < 2 ^ 31 by omega), b01]
    unfold tornB
    by_cases t0 : g.testBit 0 = true <;> by_cases t1 : g.testBit 1 = true <;> by_cases t2 : g.testBit 2 = true <;> simp [t0, t1, t2]
end MF
end
section
/-- the row c with the things of the set its (those below t) on the ground -/
def whF (h : am_F) (c : Int) (its : Nat) (x : Int) (t : Nat) : am_F := fun c' k' => if c' = c ∧ 23 ≤ k' ∧ (k' - 23) % 6 = 0 ∧ (k' - 23) / 6 < (t : Int) ∧ its.testBit ((k' - 23) / 6).toNat = true then x else h c' k'
section WH
variable {h : am_F} {c x : Int} {its t : Nat}
theorem whF_lo {c' k' : Int} (hk : k' < 23) : whF h c its x t c' k' = h c' k' := by unfold whF; rw [if_neg (by omega)]
theorem whF_ne {c' : Int} (hc : c' ≠ c) : whF h c its x t c' = h c' := by funext k'; unfold whF; rw [if_neg (fun z => hc z.1)]
theorem whF_off {c' : Int} {u : Nat} {wh : Int} (h0 : 0 ≤ wh) (h1 : wh ≤ 4) : whF h c its x t c' (18 + 6 * u + wh) = h c' (18 + 6 * u + wh) := by unfold whF; rw [if_neg (by omega)]
theorem whF_at {u : Nat} : whF h c its x t c (18 + 6 * u + 5) = if u < t ∧ its.testBit u = true then x else h c (18 + 6 * u + 5) := by
  unfold whF
  have e : ((18 : Int) + 6 * u + 5 - 23) / 6 = (u : Int) := by omega
  rw [e, Int.toNat_natCast]
  by_cases hq : u < t ∧ its.testBit u = true
  · rw [if_pos hq, if_pos ⟨rfl, by omega, by omega, by omega, hq.2⟩]
  · rw [if_neg hq, if_neg (fun z => hq ⟨by omega, z.2.2.2.2⟩)]
theorem whF_0 : whF h c its x 0 = h := by
  funext c' k'
  unfold whF
  rw [if_neg (fun z => by have := z.2.2.2.1; omega)]
theorem whF_s {v : Int} (hv : v = if its.testBit t = true then x else h c (18 + 6 * t + 5)) : up (whF h c its x t) c (18 + 6 * t + 5) v = whF h c its x (t + 1) := by
  funext c' k'
  by_cases hc : c' = c ∧ k' = 18 + 6 * t + 5
  · obtain ⟨rfl, rfl⟩ := hc
    rw [up_s, whF_at, hv]
    by_cases hb : its.testBit t = true
    · rw [if_pos hb, if_pos ⟨by omega, hb⟩]
    · rw [if_neg hb, if_neg (fun z => hb z.2)]
  · have : up (whF h c its x t) c (18 + 6 * t + 5) v c' k' = whF h c its x t c' k' := by unfold up; rw [if_neg hc]
    rw [this]
    unfold whF
    by_cases h1 : c' = c ∧ 23 ≤ k' ∧ (k' - 23) % 6 = 0 ∧ (k' - 23) / 6 < (t : Int) ∧ its.testBit ((k' - 23) / 6).toNat = true
    · rw [if_pos h1, if_pos ⟨h1.1, h1.2.1, h1.2.2.1, by omega, h1.2.2.2.2⟩]
    · rw [if_neg h1, if_neg]
      rintro ⟨z1, z2, z3, z4, z5⟩
      exact h1 ⟨z1, z2, z3, by
        have : ¬ (k' = 18 + 6 * t + 5) := fun e => hc ⟨z1, e⟩
        omega, z5⟩
end WH
section GO
variable {h : am_F} {Q : am_V → am_S → Prop} {c bj so j b p : Int} {n its : Nat}
theorem lp_wh (hk : kd c = 20) (hl : ln c = 238) (h8 : n ≤ 8) (hn : h c 1 = (n : Int)) (hi : its < 256) {st : Int} (hst : h c 3 = st) (hs2 : 0 ≤ st ∧ st ≤ 100) {fl : Int} (hq : ∀ v, am_nl v = true → wp 126 (am_ju 126 125) [aP 149, aP c, aI bj, aI so, aI j, aI fl, aI b, aI p, aI (its : Int), v] [] (sT (whF h c its (10 + st) n)) Q) : ∀ (k t : Nat), t + k = n → wp 126 (am_ju 126 96) [aP 149, aP c, aI bj, aI so, aI j, aI fl, aI b, aI p, aI (its : Int), aI (t : Int)] [] (sT (whF h c its (10 + st) t)) Q := by
  intro k
  induction k with
  | zero =>
    intro t ht
    have ht : t = n := by omega
    subst ht
    have e1 : whF h c its (10 + st) t c 1 = (t : Int) := by rw [whF_lo (by omega), hn]
    rw [ju_126_96]
    simp (disch := first | assumption | omega | exact w8_0 | exact w8_1 _ | exact w8_2 _ _ | exact w8_3 _ _ _ | exact w8_4 _ _ _ _ | exact nl_I _ | exact nl_P _ | exact nl_X | decide | exact w8_5 _ _ _ _ _) only [r_aLD1, r_bPUSH, r_iCONST, r_iALDc, r_iALDs, r_iADD, r_iST3, r_iLD3, r_IC1, r_GOTO, r_iLD2, r_iST4, r_aLD0, r_pZ, r_pI, r_iST5, r_iST6, r_iLD6, r_IC3, cl_45, r_IF0, cl_123, r_iLD4, cl_124, r_iST7, r_iLD7, r_IF2, cl_18, r_DUP2, r_iSHL, r_iOR, r_iASTc, cl_125, r_iST8, r_gI, r_iLD8, r_iLD5, r_iST9, r_iLD9, cl_25, cl_34, r_IINC9, r_IINC6, r_iRET, eq_self, Int.reduceLT, Int.reduceLE, Int.reduceEq, true_or, or_true, and_self, true_and, and_true, w8_0, w8_1, w8_2, w8_3, w8_4, nl_I, nl_P, nl_X, pu_I, pu_J, pu_V, w3_id, Int.add_zero, e1]
    rw [if_pos (by omega)]
    exact hq _ (nl_I _)
  | succ k ih =>
    intro t ht
    have hw : w3 ((t : Int) + 1) = ((t + 1 : Nat) : Int) := w3_id (by omega) (by omega)
    have e1 : whF h c its (10 + st) t c 1 = (n : Int) := by rw [whF_lo (by omega), hn]
    have e3 : whF h c its (10 + st) t c 3 = st := by rw [whF_lo (by omega), hst]
    have e5 : whF h c its (10 + st) t c (18 + 6 * t + 5) = h c (18 + 6 * t + 5) := by rw [whF_at, if_neg (by omega)]
    have ih := ih (t + 1) (by omega)
    rw [ju_126_96]
    simp (disch := first | assumption | omega | exact w8_0 | exact w8_1 _ | exact w8_2 _ _ | exact w8_3 _ _ _ | exact w8_4 _ _ _ _ | exact nl_I _ | exact nl_P _ | exact nl_X | decide | exact w8_5 _ _ _ _ _) only [ju_126_116, ju_126_122, r_aLD1, r_bPUSH, r_iCONST, r_iALDc, r_iALDs, r_iADD, r_iST3, r_iLD3, r_IC1, r_GOTO, r_iLD2, r_iST4, r_aLD0, r_pZ, r_pI, r_iST5, r_iST6, r_iLD6, r_IC3, cl_45, r_IF0, cl_123, r_iLD4, cl_124, r_iST7, r_iLD7, r_IF2, cl_18, r_DUP2, r_iSHL, r_iOR, r_iASTc, cl_125, r_iST8, r_gI, r_iLD8, r_iLD5, r_iST9, r_iLD9, cl_25, cl_34, r_IINC9, r_IINC6, r_iRET, eq_self, Int.reduceLT, Int.reduceLE, Int.reduceEq, true_or, or_true, and_self, true_and, and_true, w8_0, w8_1, w8_2, w8_3, w8_4, nl_I, nl_P, nl_X, pu_I, pu_J, pu_V, w3_id, Int.add_zero, e1, e3, e5, s_thingAt, s_rhas (show its < 2 ^ 31 by omega) (show t < 31 by omega), b01, hw]
    rw [if_neg (by omega)]
    by_cases hb : its.testBit t = true
    · rw [if_neg (by simpa using hb), whF_s (by rw [if_pos hb])]
      exact ih
    · rw [if_pos hb, whF_s (by rw [if_neg hb])]
      exact ih
end GO
end
section
/-- one step of one bag, by numbers -/
def core (k so j w r : Int) (g S : Nat) (W D E : Int) : Int × Int × Nat × Nat × Nat :=
  if S = 0 then (w, r, g, S, 0)
  else if weak k (ageW w D) (ageR r E so) g W E so j < 0 then (ageW w D, ageR r E so, g, S, 0)
  else (ageW w D, ageR r E so, g ||| 2 ^ (weak k (ageW w D) (ageR r E so) g W E so j).toNat, adn S (fallN (weak k (ageW w D) (ageR r E so) g W E so j) (g ||| 2 ^ (weak k (ageW w D) (ageR r E so) g W E so j).toNat) S), fallN (weak k (ageW w D) (ageR r E so) g W E so j) (g ||| 2 ^ (weak k (ageW w D) (ageR r E so) g W E so j).toNat) S)
theorem cy_core (h : am_F) (k so j w r : Int) (g S : Nat) : cy h k so j w r g S = core k so j w r g S (sumS (h 83) S 8) (sumS (h 84) S 8) (sumS (h 85) S 8) := rfl
def mC (h : am_F) (c b : Int) (n : Nat) (so j : Int) : Int × Int × Nat × Nat × Nat := core (h c (6 + 4 * b)) so j (h c (6 + 4 * b + 1)) (h c (6 + 4 * b + 2)) (h c (6 + 4 * b + 3)).toNat (mS h c b n) (sumF (rW h c b 0) n) (sumF (rW h c b 1) n) (sumF (rW h c b 2) n)
def mP (h : am_F) (c b : Int) (n : Nat) (so j : Int) : Int := weak (h c (6 + 4 * b)) (ageW (h c (6 + 4 * b + 1)) (sumF (rW h c b 1) n)) (ageR (h c (6 + 4 * b + 2)) (sumF (rW h c b 2) n) so) (h c (6 + 4 * b + 3)).toNat (sumF (rW h c b 0) n) (sumF (rW h c b 2) n) so j
def gs1 (h : am_F) (c b : Int) (n : Nat) (so : Int) : am_F := up (up h c (6 + 4 * b + 1) (ageW (h c (6 + 4 * b + 1)) (sumF (rW h c b 1) n))) c (6 + 4 * b + 2) (ageR (h c (6 + 4 * b + 2)) (sumF (rW h c b 2) n) so)
/-- the store behind one bag's step -/
def goS (h : am_F) (c b : Int) (n : Nat) (so j st : Int) : am_F :=
  if mS h c b n = 0 then h
  else if mP h c b n so j < 0 then gs1 h c b n so
  else whF (up (up (up (gs1 h c b n so) 149 13 1) c (6 + 4 * b + 3) ((mC h c b n so j).2.2.1 : Int)) 149 15 (if b = h 149 14 then ((mC h c b n so j).2.2.2.2 : Int) else h 149 15)) c (mC h c b n so j).2.2.2.2 (10 + st) n
def bk (h : am_F) (c b : Int) : Prop := (0 ≤ h c (6 + 4 * b) ∧ h c (6 + 4 * b) ≤ 3) ∧ (0 ≤ h c (6 + 4 * b + 1) ∧ h c (6 + 4 * b + 1) ≤ 999) ∧ (0 ≤ h c (6 + 4 * b + 2) ∧ h c (6 + 4 * b + 2) ≤ 999) ∧ (0 ≤ h c (6 + 4 * b + 3) ∧ h c (6 + 4 * b + 3) < 16)
section GP
variable {h : am_F} {Q : am_V → am_S → Prop} {c bj so j b st : Int} {n fl nb : Nat}
theorem mS_lt (h8 : n ≤ 8) : mS h c b n < 256 := Nat.lt_of_lt_of_le (setF_lt _ n) (Nat.pow_le_pow_right (n := 2) (j := 8) (by decide) h8)
set_option maxHeartbeats 2000000 in
theorem st_bag (hk : kd c = 20) (hc : c ≠ 149) (hl : ln c = 238) (h8 : n ≤ 8) (hn : h c 1 = (n : Int)) (hnb : h c 0 = (nb : Int)) (hnb3 : nb ≤ 3) (ht : tk h c n) (hb : 0 ≤ b ∧ b < nb) (hbk : bk h c b) (hj : 0 ≤ j ∧ j ≤ 7) (hst : h c 3 = st) (hs2 : 0 ≤ st ∧ st ≤ 100) (hfl : fl < 256) {v7 v8 v9 : am_V}
    (hq : ∀ v7 v8 v9, wp 126 (am_ju 126 35) [aP 149, aP c, aI bj, aI so, aI j, aI ((fl ||| (mC h c b n so j).2.2.2.2 : Nat) : Int), aI (b + 1), v7, v8, v9] [] (sT (goS h c b n so j st)) Q) :
    wp 126 (am_ju 126 35) [aP 149, aP c, aI bj, aI so, aI j, aI (fl : Int), aI b, v7, v8, v9] [] (sT h) Q := by
  obtain ⟨b1, b2, b3, b4⟩ := hbk
  obtain ⟨d1, d2, d3⟩ := tk_r (b := b) h8 ht
  obtain ⟨g, eg⟩ := Int.eq_ofNat_of_zero_le b4.1
  have hg : g < 16 := by omega
  have egn : (h c (6 + 4 * b + 3)).toNat = g := by rw [eg]; rfl
  have hw : w3 (b + 1) = b + 1 := w3_id (by omega) (by omega)
  have hSl := mS_lt (h := h) (c := c) (b := b) h8
  have a1 := ageW_r (D := sumF (rW h c b 1) n) b2 d2.1
  have a2 := ageR_r (so := so) (E := sumF (rW h c b 2) n) b3 d3.1
  rw [ju_126_35]
  simp (disch := first | assumption | omega | exact w8_0 | exact w8_1 _ | exact w8_2 _ _ | exact w8_3 _ _ _ | exact w8_4 _ _ _ _ | exact nl_I _ | exact nl_P _ | exact nl_X | decide | exact w8_5 _ _ _ _ _) only [r_aLD1, r_bPUSH, r_iCONST, r_iALDc, r_iALDs, r_iADD, r_iST3, r_iLD3, r_IC1, r_GOTO, r_iLD2, r_iST4, r_aLD0, r_pZ, r_pI, r_iST5, r_iST6, r_iLD6, r_IC3, cl_45, r_IF0, cl_123, r_iLD4, cl_124, r_iST7, r_iLD7, r_IF2, cl_18, r_DUP2, r_iSHL, r_iOR, r_iASTc, cl_125, r_iST8, r_gI, r_iLD8, r_iLD5, r_iST9, r_iLD9, cl_25, cl_34, r_IINC9, r_IINC6, r_iRET, eq_self, Int.reduceLT, Int.reduceLE, Int.reduceEq, true_or, or_true, and_self, true_and, and_true, w8_0, w8_1, w8_2, w8_3, w8_4, nl_I, nl_P, nl_X, pu_I, pu_J, pu_V, w3_id, Int.add_zero, hnb, s_thingsIn hk hl h8 hn]
  rw [if_neg (by omega), show setF (fun t => decide (h c (18 + 6 * t + 5) = b)) n = mS h c b n from rfl]
  by_cases h0 : mS h c b n = 0
  · rw [if_pos (by omega), ju_126_125]
    simp (disch := first | assumption | omega | exact w8_0 | exact w8_1 _ | exact w8_2 _ _ | exact w8_3 _ _ _ | exact w8_4 _ _ _ _ | exact nl_I _ | exact nl_P _ | exact nl_X | decide | exact w8_5 _ _ _ _ _) only [r_aLD1, r_bPUSH, r_iCONST, r_iALDc, r_iALDs, r_iADD, r_iST3, r_iLD3, r_IC1, r_GOTO, r_iLD2, r_iST4, r_aLD0, r_pZ, r_pI, r_iST5, r_iST6, r_iLD6, r_IC3, cl_45, r_IF0, cl_123, r_iLD4, cl_124, r_iST7, r_iLD7, r_IF2, cl_18, r_DUP2, r_iSHL, r_iOR, r_iASTc, cl_125, r_iST8, r_gI, r_iLD8, r_iLD5, r_iST9, r_iLD9, cl_25, cl_34, r_IINC9, r_IINC6, r_iRET, eq_self, Int.reduceLT, Int.reduceLE, Int.reduceEq, true_or, or_true, and_self, true_and, and_true, w8_0, w8_1, w8_2, w8_3, w8_4, nl_I, nl_P, nl_X, pu_I, pu_J, pu_V, w3_id, Int.add_zero, hw]
    have := hq v7 v8 v9
    simpa [mC, core, goS, h0] using this
  · rw [if_neg (by omega)]
    simp (disch := first | assumption | omega | exact w8_0 | exact w8_1 _ | exact w8_2 _ _ | exact w8_3 _ _ _ | exact w8_4 _ _ _ _ | exact nl_I _ | exact nl_P _ | exact nl_X | decide | exact w8_5 _ _ _ _ _) only [s_ages hk hl h8 hn ht ⟨hb.1, show b < 3 by omega⟩ rfl rfl b2 b3, r_aLD1, r_bPUSH, r_iCONST, r_iALDc, r_iALDs, r_iADD, r_iST3, r_iLD3, r_IC1, r_GOTO, r_iLD2, r_iST4, r_aLD0, r_pZ, r_pI, r_iST5, r_iST6, r_iLD6, r_IC3, cl_45, r_IF0, cl_123, r_iLD4, cl_124, r_iST7, r_iLD7, r_IF2, cl_18, r_DUP2, r_iSHL, r_iOR, r_iASTc, cl_125, r_iST8, r_gI, r_iLD8, r_iLD5, r_iST9, r_iLD9, cl_25, cl_34, r_IINC9, r_IINC6, r_iRET, eq_self, Int.reduceLT, Int.reduceLE, Int.reduceEq, true_or, or_true, and_self, true_and, and_true, w8_0, w8_1, w8_2, w8_3, w8_4, nl_I, nl_P, nl_X, pu_I, pu_J, pu_V, w3_id, Int.add_zero]
    rw [show up (up h c (6 + 4 * b + 1) (ageW (h c (6 + 4 * b + 1)) (sumF (rW h c b 1) n))) c (6 + 4 * b + 2) (ageR (h c (6 + 4 * b + 2)) (sumF (rW h c b 2) n) so) = gs1 h c b n so from rfl]
    have f0 : gs1 h c b n so c (6 + 4 * b) = h c (6 + 4 * b) := by unfold gs1; rw [up_k (by omega), up_k (by omega)]
    have f1 : gs1 h c b n so c (6 + 4 * b + 1) = ageW (h c (6 + 4 * b + 1)) (sumF (rW h c b 1) n) := by unfold gs1; rw [up_k (by omega), up_s]
    have f2 : gs1 h c b n so c (6 + 4 * b + 2) = ageR (h c (6 + 4 * b + 2)) (sumF (rW h c b 2) n) so := by unfold gs1; rw [up_s]
    have f3 : gs1 h c b n so c (6 + 4 * b + 3) = (g : Int) := by unfold gs1; rw [up_k (by omega), up_k (by omega), eg]
    have fn : gs1 h c b n so c 1 = (n : Int) := by unfold gs1; rw [up_k (by omega), up_k (by omega), hn]
    have fst : gs1 h c b n so c 3 = st := by unfold gs1; rw [up_k (by omega), up_k (by omega), hst]
    have ftk : tk (gs1 h c b n so) c n := tk_up (by omega) (tk_up (by omega) ht)
    have fr : ∀ wh, 0 ≤ wh → rW (gs1 h c b n so) c b wh = rW h c b wh := fun wh hwh => by unfold gs1; rw [rW_up (by omega) hwh, rW_up (by omega) hwh]
    have fS : mS (gs1 h c b n so) c b n = mS h c b n := by unfold gs1; rw [mS_up (by omega), mS_up (by omega)]
    have f49 : ∀ k, gs1 h c b n so 149 k = h 149 k := fun k => by unfold gs1; rw [up_ne (Ne.symm hc), up_ne (Ne.symm hc)]
    have wr := weak_r (k := h c (6 + 4 * b)) (w := ageW (h c (6 + 4 * b + 1)) (sumF (rW h c b 1) n)) (r := ageR (h c (6 + 4 * b + 2)) (sumF (rW h c b 2) n) so) (W := sumF (rW h c b 0) n) (E := sumF (rW h c b 2) n) (so := so) (j := j) (g := g)
    have eP : mP h c b n so j = weak (h c (6 + 4 * b)) (ageW (h c (6 + 4 * b + 1)) (sumF (rW h c b 1) n)) (ageR (h c (6 + 4 * b + 2)) (sumF (rW h c b 2) n) so) g (sumF (rW h c b 0) n) (sumF (rW h c b 2) n) so j := by unfold mP; rw [egn]
    rw [← eP] at wr
    have key : wp 126 (am_ju 126 57) [aP 149, aP c, aI bj, aI so, aI j, aI (fl : Int), aI b, v7, v8, v9] [aI (mP h c b n so j)] (sT (gs1 h c b n so)) Q := by
      rw [ju_126_57]
      simp (disch := first | assumption | omega | exact w8_0 | exact w8_1 _ | exact w8_2 _ _ | exact w8_3 _ _ _ | exact w8_4 _ _ _ _ | exact nl_I _ | exact nl_P _ | exact nl_X | decide | exact w8_5 _ _ _ _ _) only [r_aLD1, r_bPUSH, r_iCONST, r_iALDc, r_iALDs, r_iADD, r_iST3, r_iLD3, r_IC1, r_GOTO, r_iLD2, r_iST4, r_aLD0, r_pZ, r_pI, r_iST5, r_iST6, r_iLD6, r_IC3, cl_45, r_IF0, cl_123, r_iLD4, cl_124, r_iST7, r_iLD7, r_IF2, cl_18, r_DUP2, r_iSHL, r_iOR, r_iASTc, cl_125, r_iST8, r_gI, r_iLD8, r_iLD5, r_iST9, r_iLD9, cl_25, cl_34, r_IINC9, r_IINC6, r_iRET, eq_self, Int.reduceLT, Int.reduceLE, Int.reduceEq, true_or, or_true, and_self, true_and, and_true, w8_0, w8_1, w8_2, w8_3, w8_4, nl_I, nl_P, nl_X, pu_I, pu_J, pu_V, w3_id, Int.add_zero]
      by_cases hp : mP h c b n so j < 0
      · rw [if_pos hp, ju_126_125]
        simp (disch := first | assumption | omega | exact w8_0 | exact w8_1 _ | exact w8_2 _ _ | exact w8_3 _ _ _ | exact w8_4 _ _ _ _ | exact nl_I _ | exact nl_P _ | exact nl_X | decide | exact w8_5 _ _ _ _ _) only [r_aLD1, r_bPUSH, r_iCONST, r_iALDc, r_iALDs, r_iADD, r_iST3, r_iLD3, r_IC1, r_GOTO, r_iLD2, r_iST4, r_aLD0, r_pZ, r_pI, r_iST5, r_iST6, r_iLD6, r_IC3, cl_45, r_IF0, cl_123, r_iLD4, cl_124, r_iST7, r_iLD7, r_IF2, cl_18, r_DUP2, r_iSHL, r_iOR, r_iASTc, cl_125, r_iST8, r_gI, r_iLD8, r_iLD5, r_iST9, r_iLD9, cl_25, cl_34, r_IINC9, r_IINC6, r_iRET, eq_self, Int.reduceLT, Int.reduceLE, Int.reduceEq, true_or, or_true, and_self, true_and, and_true, w8_0, w8_1, w8_2, w8_3, w8_4, nl_I, nl_P, nl_X, pu_I, pu_J, pu_V, w3_id, Int.add_zero, hw]
        have := hq (aI (mP h c b n so j)) v8 v9
        have hp2 := hp
        unfold mP at hp2
        simpa [mC, core, goS, h0, hp, hp2] using this
      · rw [if_neg hp]
        obtain ⟨q, eq⟩ := Int.eq_ofNat_of_zero_le (show 0 ≤ mP h c b n so j by omega)
        have hq4 : q < 4 := by omega
        have h31 : 1 * 2 ^ q < 2 ^ 31 := by
          rw [Nat.one_mul]; exact Nat.pow_lt_pow_right (by decide) (by omega)
        have hor := or16 hg hq4
        have e1 : bOr (g : Int) (bShl 1 (q : Int)) = ((g ||| 2 ^ q : Nat) : Int) := by
          rw [show (1 : Int) = ((1 : Nat) : Int) from rfl, bShl_n 1 q (by omega) h31, bOr_n _ _ (by omega) h31, Nat.one_mul]
        have e13 : up (gs1 h c b n so) 149 13 1 c (6 + 4 * b + 3) = (g : Int) := by rw [up_ne hc, f3]
        rw [eq]
        simp (disch := first | assumption | omega | exact w8_0 | exact w8_1 _ | exact w8_2 _ _ | exact w8_3 _ _ _ | exact w8_4 _ _ _ _ | exact nl_I _ | exact nl_P _ | exact nl_X | decide | exact w8_5 _ _ _ _ _) only [r_aLD1, r_bPUSH, r_iCONST, r_iALDc, r_iALDs, r_iADD, r_iST3, r_iLD3, r_IC1, r_GOTO, r_iLD2, r_iST4, r_aLD0, r_pZ, r_pI, r_iST5, r_iST6, r_iLD6, r_IC3, cl_45, r_IF0, cl_123, r_iLD4, cl_124, r_iST7, r_iLD7, r_IF2, cl_18, r_DUP2, r_iSHL, r_iOR, r_iASTc, cl_125, r_iST8, r_gI, r_iLD8, r_iLD5, r_iST9, r_iLD9, cl_25, cl_34, r_IINC9, r_IINC6, r_iRET, eq_self, Int.reduceLT, Int.reduceLE, Int.reduceEq, true_or, or_true, and_self, true_and, and_true, w8_0, w8_1, w8_2, w8_3, w8_4, nl_I, nl_P, nl_X, pu_I, pu_J, pu_V, w3_id, Int.add_zero, s_bagAt, e13, e1]
        generalize h3e : up (up (gs1 h c b n so) 149 13 1) c (6 + 4 * b + 3) ((g ||| 2 ^ q : Nat) : Int) = h3
        have g1 : ∀ k, k ≠ 6 + 4 * b + 3 → h3 c k = gs1 h c b n so c k := fun k hk9 => by rw [← h3e, up_k hk9, up_ne hc]
        have g3 : h3 c (6 + 4 * b + 3) = ((g ||| 2 ^ q : Nat) : Int) := by rw [← h3e, up_s]
        have gn : h3 c 1 = (n : Int) := by rw [g1 _ (by omega), fn]
        have gst : h3 c 3 = st := by rw [g1 _ (by omega), fst]
        have gS : mS h3 c b n = mS h c b n := by
          rw [← fS]
          unfold mS
          congr 1
          funext t
          rw [g1 _ (by omega)]
        have g49 : ∀ k, k ≠ 13 → h3 149 k = h 149 k := fun k hk9 => by rw [← h3e, up_ne (Ne.symm hc), up_k hk9, f49]
        have ef : (mC h c b n so j).2.2.2.2 = fallN (q : Int) (g ||| 2 ^ q) (mS h c b n) := by
          have hp2 := hp
          rw [eP] at hp2 eq
          unfold mC core
          rw [egn, if_neg h0, if_neg hp2, eq, Int.toNat_natCast]
        have eg' : (mC h c b n so j).2.2.1 = g ||| 2 ^ q := by
          have hp2 := hp
          rw [eP] at hp2 eq
          unfold mC core
          rw [egn, if_neg h0, if_neg hp2, eq, Int.toNat_natCast]
        have hfa := fun Q' => s_falls (Q := Q') (pl := (q : Int)) hk hl h8 gn ⟨hb.1, show b < 3 by omega⟩ hor g3
        rw [gS, ← ef] at hfa
        have hf256 : (mC h c b n so j).2.2.2.2 < 256 := by rw [ef]; exact fallN_lt hSl
        simp (disch := first | assumption | omega | exact w8_0 | exact w8_1 _ | exact w8_2 _ _ | exact w8_3 _ _ _ | exact w8_4 _ _ _ _ | exact nl_I _ | exact nl_P _ | exact nl_X | decide | exact w8_5 _ _ _ _ _) only [hfa, r_aLD1, r_bPUSH, r_iCONST, r_iALDc, r_iALDs, r_iADD, r_iST3, r_iLD3, r_IC1, r_GOTO, r_iLD2, r_iST4, r_aLD0, r_pZ, r_pI, r_iST5, r_iST6, r_iLD6, r_IC3, cl_45, r_IF0, cl_123, r_iLD4, cl_124, r_iST7, r_iLD7, r_IF2, cl_18, r_DUP2, r_iSHL, r_iOR, r_iASTc, cl_125, r_iST8, r_gI, r_iLD8, r_iLD5, r_iST9, r_iLD9, cl_25, cl_34, r_IINC9, r_IINC6, r_iRET, eq_self, Int.reduceLT, Int.reduceLE, Int.reduceEq, true_or, or_true, and_self, true_and, and_true, w8_0, w8_1, w8_2, w8_3, w8_4, nl_I, nl_P, nl_X, pu_I, pu_J, pu_V, w3_id, Int.add_zero, g49 14 (by decide), g49 15 (by decide)]
        have fin : ∀ x : Int, x = (if b = h 149 14 then ((mC h c b n so j).2.2.2.2 : Int) else h 149 15) → wp 126 (am_ju 126 89) [aP 149, aP c, aI bj, aI so, aI j, aI (fl : Int), aI b, aI (q : Int), aI ((mC h c b n so j).2.2.2.2 : Int), v9] [aI x, aP 149] (sT h3) Q := by
          intro x hx
          rw [ju_126_89]
          simp (disch := first | assumption | omega | exact w8_0 | exact w8_1 _ | exact w8_2 _ _ | exact w8_3 _ _ _ | exact w8_4 _ _ _ _ | exact nl_I _ | exact nl_P _ | exact nl_X | decide | exact w8_5 _ _ _ _ _) only [r_aLD1, r_bPUSH, r_iCONST, r_iALDc, r_iALDs, r_iADD, r_iST3, r_iLD3, r_IC1, r_GOTO, r_iLD2, r_iST4, r_aLD0, r_pZ, r_pI, r_iST5, r_iST6, r_iLD6, r_IC3, cl_45, r_IF0, cl_123, r_iLD4, cl_124, r_iST7, r_iLD7, r_IF2, cl_18, r_DUP2, r_iSHL, r_iOR, r_iASTc, cl_125, r_iST8, r_gI, r_iLD8, r_iLD5, r_iST9, r_iLD9, cl_25, cl_34, r_IINC9, r_IINC6, r_iRET, eq_self, Int.reduceLT, Int.reduceLE, Int.reduceEq, true_or, or_true, and_self, true_and, and_true, w8_0, w8_1, w8_2, w8_3, w8_4, nl_I, nl_P, nl_X, pu_I, pu_J, pu_V, w3_id, Int.add_zero, bOr_n fl _ (show fl < 2 ^ 31 by omega) (show (mC h c b n so j).2.2.2.2 < 2 ^ 31 by omega)]
          have k1 : up h3 149 15 x c 1 = (n : Int) := by rw [up_ne hc, gn]
          have k3 : up h3 149 15 x c 3 = st := by rw [up_ne hc, gst]
          have := lp_wh (Q := Q) (bj := bj) (so := so) (j := j) (b := b) (p := (q : Int)) (fl := ((fl ||| (mC h c b n so j).2.2.2.2 : Nat) : Int)) hk hl h8 k1 hf256 k3 hs2 (fun v hv => ?_) n 0 (Nat.zero_add n)
          · rw [whF_0] at this
            exact this
          · rw [ju_126_125]
            simp (disch := first | assumption | omega | exact w8_0 | exact w8_1 _ | exact w8_2 _ _ | exact w8_3 _ _ _ | exact w8_4 _ _ _ _ | exact nl_I _ | exact nl_P _ | exact nl_X | decide | exact w8_5 _ _ _ _ _) only [r_aLD1, r_bPUSH, r_iCONST, r_iALDc, r_iALDs, r_iADD, r_iST3, r_iLD3, r_IC1, r_GOTO, r_iLD2, r_iST4, r_aLD0, r_pZ, r_pI, r_iST5, r_iST6, r_iLD6, r_IC3, cl_45, r_IF0, cl_123, r_iLD4, cl_124, r_iST7, r_iLD7, r_IF2, cl_18, r_DUP2, r_iSHL, r_iOR, r_iASTc, cl_125, r_iST8, r_gI, r_iLD8, r_iLD5, r_iST9, r_iLD9, cl_25, cl_34, r_IINC9, r_IINC6, r_iRET, eq_self, Int.reduceLT, Int.reduceLE, Int.reduceEq, true_or, or_true, and_self, true_and, and_true, w8_0, w8_1, w8_2, w8_3, w8_4, nl_I, nl_P, nl_X, pu_I, pu_J, pu_V, w3_id, Int.add_zero, hw]
            have h9 := hq (aI (q : Int)) (aI ((mC h c b n so j).2.2.2.2 : Int)) v
            unfold goS at h9
            rw [if_neg h0, if_neg hp, eg', h3e, ← hx] at h9
            exact h9
        by_cases hbw : b = h 149 14
        · rw [if_neg (by simpa using hbw)]
          exact fin _ (by rw [if_pos hbw])
        · rw [if_pos hbw, ju_126_87]
          simp (disch := first | assumption | omega | exact w8_0 | exact w8_1 _ | exact w8_2 _ _ | exact w8_3 _ _ _ | exact w8_4 _ _ _ _ | exact nl_I _ | exact nl_P _ | exact nl_X | decide | exact w8_5 _ _ _ _ _) only [r_aLD1, r_bPUSH, r_iCONST, r_iALDc, r_iALDs, r_iADD, r_iST3, r_iLD3, r_IC1, r_GOTO, r_iLD2, r_iST4, r_aLD0, r_pZ, r_pI, r_iST5, r_iST6, r_iLD6, r_IC3, cl_45, r_IF0, cl_123, r_iLD4, cl_124, r_iST7, r_iLD7, r_IF2, cl_18, r_DUP2, r_iSHL, r_iOR, r_iASTc, cl_125, r_iST8, r_gI, r_iLD8, r_iLD5, r_iST9, r_iLD9, cl_25, cl_34, r_IINC9, r_IINC6, r_iRET, eq_self, Int.reduceLT, Int.reduceLE, Int.reduceEq, true_or, or_true, and_self, true_and, and_true, w8_0, w8_1, w8_2, w8_3, w8_4, nl_I, nl_P, nl_X, pu_I, pu_J, pu_V, w3_id, Int.add_zero, g49 15 (by decide)]
          exact fin _ (by rw [if_neg hbw])
    by_cases h4 : so = 4
    · have e4 : mP h c b n so j = -1 := by unfold mP weak; rw [if_pos h4]
      rw [if_neg (by simpa using h4)]
      rw [e4] at key
      exact key
    · rw [if_pos h4, ju_126_53]
      simp (disch := first | assumption | omega | exact w8_0 | exact w8_1 _ | exact w8_2 _ _ | exact w8_3 _ _ _ | exact w8_4 _ _ _ _ | exact nl_I _ | exact nl_P _ | exact nl_X | decide | exact w8_5 _ _ _ _ _) only [r_aLD1, r_bPUSH, r_iCONST, r_iALDc, r_iALDs, r_iADD, r_iST3, r_iLD3, r_IC1, r_GOTO, r_iLD2, r_iST4, r_aLD0, r_pZ, r_pI, r_iST5, r_iST6, r_iLD6, r_IC3, cl_45, r_IF0, cl_123, r_iLD4, cl_124, r_iST7, r_iLD7, r_IF2, cl_18, r_DUP2, r_iSHL, r_iOR, r_iASTc, cl_125, r_iST8, r_gI, r_iLD8, r_iLD5, r_iST9, r_iLD9, cl_25, cl_34, r_IINC9, r_IINC6, r_iRET, eq_self, Int.reduceLT, Int.reduceLE, Int.reduceEq, true_or, or_true, and_self, true_and, and_true, w8_0, w8_1, w8_2, w8_3, w8_4, nl_I, nl_P, nl_X, pu_I, pu_J, pu_V, w3_id, Int.add_zero]
      have hgv := fun Q' => s_gives (Q := Q') (so := so) hk hl h8 fn ftk ⟨hb.1, show b < 3 by omega⟩ f0 f1 f2 b1 a1 a2 hg f3 hj h4
      rw [fr 0 (by decide), fr 2 (by decide), ← eP] at hgv
      simp only [hgv, pu_I]
      exact key
end GP
end
section
theorem fallN_sub {p : Int} {g S t : Nat} (hS : S < 256) (h : (fallN p g S).testBit t = true) : S.testBit t = true := by
  unfold fallN at h
  split at h
  · rw [← lo_sub S hS, Nat.testBit_and, Bool.and_eq_true] at h; exact h.1
  · split at h
    · exact h
    · simp at h
theorem core_sub {k so j w r W D E : Int} {g S t : Nat} (hS : S < 256) (h : (core k so j w r g S W D E).2.2.2.2.testBit t = true) : S.testBit t = true := by
  unfold core at h
  split at h
  · simp at h
  · split at h
    · simp at h
    · exact fallN_sub hS h
theorem mS_bit {h : am_F} {c b : Int} {n t : Nat} : (mS h c b n).testBit t = (decide (t < n) && decide (h c (18 + 6 * t + 5) = b)) := by
  unfold mS; rw [setF_bit]
def gvB (h : am_F) (c b : Int) (n : Nat) (so j : Int) : Bool := decide (mS h c b n ≠ 0) && decide (0 ≤ mP h c b n so j)
def anyG (h : am_F) (c : Int) (n : Nat) (so j : Int) : Nat → Bool
  | 0 => false
  | B + 1 => anyG h c n so j B || gvB h c B n so j
def fL (h : am_F) (c : Int) (n : Nat) (so j : Int) : Nat → Nat
  | 0 => 0
  | B + 1 => fL h c n so j B ||| (mC h c B n so j).2.2.2.2
/-- behind B bags of a step -/
def GI (h h' : am_F) (c : Int) (n : Nat) (so j st : Int) (B : Nat) : Prop :=
  (∀ b : Nat, b < B → h' c (6 + 4 * b) = h c (6 + 4 * b) ∧ h' c (6 + 4 * b + 1) = (mC h c b n so j).1 ∧ h' c (6 + 4 * b + 2) = (mC h c b n so j).2.1 ∧ h' c (6 + 4 * b + 3) = ((mC h c b n so j).2.2.1 : Int)) ∧
  (∀ k : Int, (k < 6 + 4 * B ∧ 6 ≤ k) ∨ (∃ t : Nat, t < n ∧ k = 18 + 6 * t + 5) ∨ h' c k = h c k) ∧
  (∀ t : Nat, t < n → h' c (18 + 6 * t + 5) = if (fL h c n so j B).testBit t = true then 10 + st else h c (18 + 6 * t + 5)) ∧
  (∀ c', c' ≠ c → c' ≠ 149 → h' c' = h c') ∧ (∀ k, k ≠ 13 → k ≠ 15 → h' 149 k = h 149 k) ∧
  h' 149 13 = (if anyG h c n so j B = true then 1 else h 149 13) ∧
  h' 149 15 = (if 0 ≤ h 149 14 ∧ h 149 14 < B ∧ gvB h c (h 149 14) n so j = true then ((mC h c (h 149 14) n so j).2.2.2.2 : Int) else h 149 15)
section GQ
variable {h h' : am_F} {c so j st : Int} {n nb B : Nat}
theorem GI_0 : GI h h c n so j st 0 := by
  refine ⟨fun b hb => absurd hb (by omega), fun k => Or.inr (Or.inr rfl), fun t ht => ?_, fun _ _ _ => rfl, fun _ _ _ => rfl, ?_, ?_⟩
  · simp [fL]
  · simp [anyG]
  · rw [if_neg (by omega)]
theorem fL_sub (h8 : n ≤ 8) {t : Nat} : ∀ {B : Nat}, (fL h c n so j B).testBit t = true → t < n ∧ ∃ b : Nat, b < B ∧ h c (18 + 6 * t + 5) = (b : Int) := by
  intro B
  induction B with
  | zero => intro h1; simp [fL] at h1
  | succ B ih =>
    intro h1
    rw [fL, Nat.testBit_or, Bool.or_eq_true] at h1
    rcases h1 with h1 | h1
    · obtain ⟨a, b, c1, d⟩ := ih h1
      exact ⟨a, b, by omega, d⟩
    · have h2 := core_sub (mS_lt h8) h1
      rw [mS_bit, Bool.and_eq_true, decide_eq_true_eq, decide_eq_true_eq] at h2
      exact ⟨h2.1, B, by omega, h2.2⟩
/-- what a later bag reads is as at first -/
theorem GI_read (h8 : n ≤ 8) (hs : 0 ≤ st) (hB : B ≤ 2) (hG : GI h h' c n so j st B) : (∀ k : Int, 6 + 4 * B ≤ k → k < 18 → h' c k = h c k) ∧ mS h' c B n = mS h c B n ∧ (∀ wh : Int, 0 ≤ wh → wh ≤ 4 → rW h' c B wh = fun t => if t < n then rW h c B wh t else rW h' c B wh t) := by
  obtain ⟨g1, g2, g3, g4, g5, g6, g7⟩ := hG
  have hk : ∀ k : Int, 6 + 4 * B ≤ k → k < 18 → h' c k = h c k := by
    intro k a b
    rcases g2 k with q | ⟨t, q1, q2⟩ | q
    · omega
    · omega
    · exact q
  have hw : ∀ t : Nat, t < n → (h' c (18 + 6 * t + 5) = (B : Int) ↔ h c (18 + 6 * t + 5) = (B : Int)) := by
    intro t ht
    rw [g3 t ht]
    split
    · next hb =>
      obtain ⟨-, b, q1, q2⟩ := fL_sub h8 hb
      rw [q2]; omega
    · exact Iff.rfl
  refine ⟨hk, ?_, fun wh w0 w1 => ?_⟩
  · apply Nat.eq_of_testBit_eq
    intro t
    rw [mS_bit, mS_bit]
    by_cases ht : t < n
    · simp [ht, hw t ht]
    · simp [ht]
  · funext t
    by_cases ht : t < n
    · rw [if_pos ht]
      unfold rW
      have e : h' c (18 + 6 * t + wh) = h c (18 + 6 * t + wh) := by
        rcases g2 (18 + 6 * t + wh) with q | ⟨u, q1, q2⟩ | q
        · omega
        · omega
        · exact q
      by_cases hq : h c (18 + 6 * t + 5) = (B : Int)
      · rw [if_pos hq, if_pos ((hw t ht).mpr hq), e]
      · rw [if_neg hq, if_neg (fun z => hq ((hw t ht).mp z))]
    · rw [if_neg ht]
theorem sumF_eq {f g : Nat → Int} : ∀ {n : Nat}, (∀ t, t < n → f t = g t) → sumF f n = sumF g n := by
  intro n
  induction n with
  | zero => intro _; rfl
  | succ n ih =>
    intro hq
    rw [sumF, sumF, ih (fun t ht => hq t (by omega)), hq n (by omega)]
theorem GI_sum (h8 : n ≤ 8) (hs : 0 ≤ st) (hB : B ≤ 2) (hG : GI h h' c n so j st B) {wh : Int} (w0 : 0 ≤ wh) (w1 : wh ≤ 4) : sumF (rW h' c B wh) n = sumF (rW h c B wh) n := by
  have := (GI_read h8 hs hB hG).2.2 wh w0 w1
  exact sumF_eq (fun t ht => by rw [this]; simp [ht])
theorem GI_mC (h8 : n ≤ 8) (hs : 0 ≤ st) (hB : B ≤ 2) (hG : GI h h' c n so j st B) : mC h' c B n so j = mC h c B n so j ∧ mP h' c B n so j = mP h c B n so j := by
  obtain ⟨a, b, -⟩ := GI_read h8 hs hB hG
  unfold mC mP
  rw [GI_sum h8 hs hB hG (by decide) (by decide), GI_sum h8 hs hB hG (by decide) (by decide), GI_sum h8 hs hB hG (by decide) (by decide), b, a _ (by omega) (by omega), a _ (by omega) (by omega), a _ (by omega) (by omega), a _ (by omega) (by omega)]
  exact ⟨rfl, rfl⟩
end GQ
end
section
section GR
variable {h h' : am_F} {c so j st : Int} {n nb B : Nat}
set_option maxHeartbeats 2000000 in
theorem GI_step (hc : c ≠ 149) (h8 : n ≤ 8) (hs : 0 ≤ st) (hB : B ≤ 2) (hbk : bk h c B) (hG : GI h h' c n so j st B) : GI h (goS h' c B n so j st) c n so j st (B + 1) := by
  obtain ⟨rd, eS, -⟩ := GI_read h8 hs hB hG
  obtain ⟨eC, eP⟩ := GI_mC h8 hs hB hG
  have s1 := GI_sum h8 hs hB hG (wh := 1) (by decide) (by decide)
  have s2 := GI_sum h8 hs hB hG (wh := 2) (by decide) (by decide)
  obtain ⟨g1, g2, g3, g4, g5, g6, g7⟩ := hG
  have r0 := rd (6 + 4 * B) (by omega) (by omega)
  have r1 := rd (6 + 4 * B + 1) (by omega) (by omega)
  have r2 := rd (6 + 4 * B + 2) (by omega) (by omega)
  have r3 := rd (6 + 4 * B + 3) (by omega) (by omega)
  have r14 : h' 149 14 = h 149 14 := g5 14 (by decide) (by decide)
  have hgn : ((h c (6 + 4 * B + 3)).toNat : Int) = h c (6 + 4 * B + 3) := Int.toNat_of_nonneg hbk.2.2.2.1
  have hbs : ∀ b : Nat, b < B + 1 → b < B ∨ b = B := fun b hb => by omega
  unfold goS
  rw [eS, eP, eC, r14]
  by_cases h0 : mS h c B n = 0
  · rw [if_pos h0]
    have m1 : mC h c B n so j = (h c (6 + 4 * B + 1), h c (6 + 4 * B + 2), (h c (6 + 4 * B + 3)).toNat, mS h c B n, 0) := by unfold mC core; rw [if_pos h0]
    have m2 : gvB h c B n so j = false := by unfold gvB; simp [h0]
    refine ⟨fun b hb => ?_, fun k => ?_, fun t ht => ?_, g4, g5, ?_, ?_⟩
    · rcases hbs b hb with q | q
      · exact g1 b q
      · subst q
        rw [m1]
        exact ⟨r0, r1, r2, by rw [r3]; exact hgn.symm⟩
    · rcases g2 k with q | q | q
      · exact Or.inl (by omega)
      · exact Or.inr (Or.inl q)
      · exact Or.inr (Or.inr q)
    · rw [g3 t ht, fL, m1]; simp
    · rw [g6, anyG, m2]; simp
    · rw [g7]
      by_cases hw : h 149 14 = (B : Int)
      · rw [if_neg (by omega), if_neg (fun z => by rw [hw, m2] at z; simp at z)]
      · have e : (0 ≤ h 149 14 ∧ h 149 14 < (B : Int) ∧ gvB h c (h 149 14) n so j = true) ↔ (0 ≤ h 149 14 ∧ h 149 14 < ((B + 1 : Nat) : Int) ∧ gvB h c (h 149 14) n so j = true) := by
          constructor
          · rintro ⟨a, b, c1⟩; exact ⟨a, by omega, c1⟩
          · rintro ⟨a, b, c1⟩; exact ⟨a, by omega, c1⟩
        simp only [e]
  · rw [if_neg h0]
    have n0 : gs1 h' c B n so c (6 + 4 * B) = h c (6 + 4 * B) := by unfold gs1; rw [up_k (by omega), up_k (by omega), r0]
    have n1 : gs1 h' c B n so c (6 + 4 * B + 1) = ageW (h c (6 + 4 * B + 1)) (sumF (rW h c B 1) n) := by unfold gs1; rw [up_k (by omega), up_s, r1, s1]
    have n2 : gs1 h' c B n so c (6 + 4 * B + 2) = ageR (h c (6 + 4 * B + 2)) (sumF (rW h c B 2) n) so := by unfold gs1; rw [up_s, r2, s2]
    have nk : ∀ k : Int, k ≠ 6 + 4 * B + 1 → k ≠ 6 + 4 * B + 2 → gs1 h' c B n so c k = h' c k := fun k q1 q2 => by unfold gs1; rw [up_k q2, up_k q1]
    have nc : ∀ c' : Int, c' ≠ c → gs1 h' c B n so c' = h' c' := fun c' q => by unfold gs1; rw [up_ne q, up_ne q]
    have h49 := nc 149 (Ne.symm hc)
    by_cases hp : mP h c B n so j < 0
    · rw [if_pos hp]
      have hp2 := hp
      unfold mP at hp2
      have m1 : mC h c B n so j = (ageW (h c (6 + 4 * B + 1)) (sumF (rW h c B 1) n), ageR (h c (6 + 4 * B + 2)) (sumF (rW h c B 2) n) so, (h c (6 + 4 * B + 3)).toNat, mS h c B n, 0) := by unfold mC core; rw [if_neg h0, if_pos hp2]
      have m2 : gvB h c B n so j = false := by
        unfold gvB
        have : ¬ 0 ≤ mP h c B n so j := by omega
        simp [this]
      refine ⟨fun b hb => ?_, fun k => ?_, fun t ht => ?_, fun c' q1 q2 => by rw [nc c' q1]; exact g4 c' q1 q2, fun k q1 q2 => by rw [h49]; exact g5 k q1 q2, ?_, ?_⟩
      · rcases hbs b hb with q | q
        · rw [nk _ (by omega) (by omega), nk _ (by omega) (by omega), nk _ (by omega) (by omega), nk _ (by omega) (by omega)]
          exact g1 b q
        · subst q
          rw [m1]
          exact ⟨n0, n1, n2, by rw [nk _ (by omega) (by omega), r3]; exact hgn.symm⟩
      · by_cases hk : k < 6 + 4 * ((B + 1 : Nat) : Int) ∧ 6 ≤ k
        · exact Or.inl hk
        · rw [nk k (by omega) (by omega)]
          rcases g2 k with q | q | q
          · exact Or.inl (by omega)
          · exact Or.inr (Or.inl q)
          · exact Or.inr (Or.inr q)
      · rw [nk _ (by omega) (by omega), g3 t ht, fL, m1]; simp
      · rw [h49, g6, anyG, m2]; simp
      · rw [h49, g7]
        by_cases hw : h 149 14 = (B : Int)
        · rw [if_neg (by omega), if_neg (fun z => by rw [hw, m2] at z; simp at z)]
        · have e : (0 ≤ h 149 14 ∧ h 149 14 < (B : Int) ∧ gvB h c (h 149 14) n so j = true) ↔ (0 ≤ h 149 14 ∧ h 149 14 < ((B + 1 : Nat) : Int) ∧ gvB h c (h 149 14) n so j = true) := by
            constructor
            · rintro ⟨a, b, c1⟩; exact ⟨a, by omega, c1⟩
            · rintro ⟨a, b, c1⟩; exact ⟨a, by omega, c1⟩
          simp only [e]
    · rw [if_neg hp]
      have hp2 := hp
      unfold mP at hp2
      have m2 : gvB h c B n so j = true := by
        unfold gvB
        have : 0 ≤ mP h c B n so j := by omega
        simp [h0, this]
      have m3 : (mC h c B n so j).1 = ageW (h c (6 + 4 * B + 1)) (sumF (rW h c B 1) n) := by unfold mC core; rw [if_neg h0, if_neg hp2]
      have m4 : (mC h c B n so j).2.1 = ageR (h c (6 + 4 * B + 2)) (sumF (rW h c B 2) n) so := by unfold mC core; rw [if_neg h0, if_neg hp2]
      generalize hf : (mC h c B n so j).2.2.2.2 = f at *
      generalize hgg : (mC h c B n so j).2.2.1 = gg at *
      generalize hx : (if (B : Int) = h 149 14 then (f : Int) else h' 149 15) = x
      generalize hH : up (up (up (gs1 h' c B n so) 149 13 1) c (6 + 4 * B + 3) (gg : Int)) 149 15 x = H
      have k1 : ∀ k : Int, k ≠ 6 + 4 * B + 3 → H c k = gs1 h' c B n so c k := fun k q => by rw [← hH, up_ne hc, up_k q, up_ne hc]
      have k2 : H c (6 + 4 * B + 3) = (gg : Int) := by rw [← hH, up_ne hc, up_s]
      have k3 : ∀ c' : Int, c' ≠ c → c' ≠ 149 → H c' = h' c' := fun c' q1 q2 => by rw [← hH, up_ne q2, up_ne q1, up_ne q2, nc c' q1]
      have k4 : ∀ k : Int, k ≠ 13 → k ≠ 15 → H 149 k = h' 149 k := fun k q1 q2 => by rw [← hH, up_k q2, up_ne (Ne.symm hc), up_k q1, h49]
      have k5 : H 149 13 = 1 := by rw [← hH, up_k (by decide), up_ne (Ne.symm hc), up_s]
      have k6 : H 149 15 = x := by rw [← hH, up_s]
      have w49 : ∀ t, whF H c f (10 + st) t 149 = H 149 := fun t => whF_ne (Ne.symm hc)
      refine ⟨fun b hb => ?_, fun k => ?_, fun t ht => ?_, fun c' q1 q2 => by rw [whF_ne q1, k3 c' q1 q2]; exact g4 c' q1 q2, fun k q1 q2 => by rw [w49, k4 k q1 q2]; exact g5 k q1 q2, ?_, ?_⟩
      · rw [whF_lo (by omega), whF_lo (by omega), whF_lo (by omega), whF_lo (by omega)]
        rcases hbs b hb with q | q
        · rw [k1 _ (by omega), k1 _ (by omega), k1 _ (by omega), k1 _ (by omega), nk _ (by omega) (by omega), nk _ (by omega) (by omega), nk _ (by omega) (by omega), nk _ (by omega) (by omega)]
          exact g1 b q
        · subst q
          rw [m3, m4, hgg]
          exact ⟨by rw [k1 _ (by omega), n0], by rw [k1 _ (by omega), n1], by rw [k1 _ (by omega), n2], k2⟩
      · by_cases hk : k < 6 + 4 * ((B + 1 : Nat) : Int) ∧ 6 ≤ k
        · exact Or.inl hk
        · by_cases hk2 : ∃ t : Nat, t < n ∧ k = 18 + 6 * t + 5
          · exact Or.inr (Or.inl hk2)
          · right; right
            have e : whF H c f (10 + st) n c k = H c k := by
              unfold whF
              rw [if_neg]
              rintro ⟨-, z2, z3, z4, -⟩
              exact hk2 ⟨((k - 23) / 6).toNat, by omega, by omega⟩
            rw [e, k1 k (by omega), nk k (by omega) (by omega)]
            rcases g2 k with q | q | q
            · omega
            · exact absurd q hk2
            · exact q
      · rw [whF_at, k1 _ (by omega), nk _ (by omega) (by omega), g3 t ht, fL, Nat.testBit_or, hf]
        by_cases q1 : f.testBit t = true
        · simp [q1, ht]
        · simp [q1]
      · rw [w49, k5, anyG, m2]; simp
      · rw [w49, k6, ← hx]
        by_cases hw : (B : Int) = h 149 14
        · rw [if_pos hw, ← hw, if_pos ⟨by omega, by omega, m2⟩, hf]
        · rw [if_neg hw, g7]
          have e : (0 ≤ h 149 14 ∧ h 149 14 < (B : Int) ∧ gvB h c (h 149 14) n so j = true) ↔ (0 ≤ h 149 14 ∧ h 149 14 < ((B + 1 : Nat) : Int) ∧ gvB h c (h 149 14) n so j = true) := by
            constructor
            · rintro ⟨a, b, c1⟩; exact ⟨a, by omega, c1⟩
            · rintro ⟨a, b, c1⟩; exact ⟨a, by omega, c1⟩
          simp only [e]
end GR
end
section
section GT
variable {h h' : am_F} {Q : am_V → am_S → Prop} {c bj so j st : Int} {n nb : Nat}
theorem fL_lt (h8 : n ≤ 8) : ∀ B : Nat, fL h c n so j B < 256 := by
  intro B
  induction B with
  | zero => simp [fL]
  | succ B ih =>
    rw [fL]
    refine Nat.or_lt_two_pow (n := 8) ih ?_
    have : (mC h c B n so j).2.2.2.2 < 256 := by
      unfold mC core
      split
      · simp
      · split
        · simp
        · exact fallN_lt (mS_lt h8)
    exact this
theorem GI_tk (h8 : n ≤ 8) {B : Nat} (hB : B ≤ 3) (ht : tk h c n) (hG : GI h h' c n so j st B) : tk h' c n := by
  intro t h1
  have e : ∀ wh : Int, 0 ≤ wh → wh ≤ 4 → h' c (18 + 6 * t + wh) = h c (18 + 6 * t + wh) := by
    intro wh w0 w1
    rcases hG.2.1 (18 + 6 * t + wh) with q | ⟨u, q1, q2⟩ | q
    · omega
    · omega
    · exact q
  rw [e 0 (by decide) (by decide), e 1 (by decide) (by decide), e 2 (by decide) (by decide)]
  exact ht t h1
theorem lp_goes (hk : kd c = 20) (hc : c ≠ 149) (hl : ln c = 238) (h8 : n ≤ 8) (hn : h c 1 = (n : Int)) (hnb : h c 0 = (nb : Int)) (hnb3 : nb ≤ 3) (ht : tk h c n) (hbk : ∀ b : Nat, b < nb → bk h c b) (hj : 0 ≤ j ∧ j ≤ 7) (hst : h c 3 = st) (hs2 : 0 ≤ st ∧ st ≤ 100)
    (hq : ∀ h', GI h h' c n so j st nb → Q (aI (fL h c n so j nb : Int)) (sT (up h' c 3 (st + 1)))) : ∀ (k B : Nat) (h' : am_F) (v7 v8 v9 : am_V), B + k = nb → GI h h' c n so j st B → wp 126 (am_ju 126 35) [aP 149, aP c, aI bj, aI so, aI j, aI (fL h c n so j B : Int), aI (B : Int), v7, v8, v9] [] (sT h') Q := by
  intro k
  induction k with
  | zero =>
    intro B h' v7 v8 v9 hB hG
    have hB : B = nb := by omega
    subst hB
    have lo : ∀ k : Int, k < 6 → h' c k = h c k := fun k q => by
      rcases hG.2.1 k with z | ⟨u, z1, z2⟩ | z
      · omega
      · omega
      · exact z
    rw [ju_126_35]
    simp (disch := first | assumption | omega | exact w8_0 | exact w8_1 _ | exact w8_2 _ _ | exact w8_3 _ _ _ | exact w8_4 _ _ _ _ | exact nl_I _ | exact nl_P _ | exact nl_X | decide | exact w8_5 _ _ _ _ _) only [r_aLD1, r_bPUSH, r_iCONST, r_iALDc, r_iALDs, r_iADD, r_iST3, r_iLD3, r_IC1, r_GOTO, r_iLD2, r_iST4, r_aLD0, r_pZ, r_pI, r_iST5, r_iST6, r_iLD6, r_IC3, cl_45, r_IF0, cl_123, r_iLD4, cl_124, r_iST7, r_iLD7, r_IF2, cl_18, r_DUP2, r_iSHL, r_iOR, r_iASTc, cl_125, r_iST8, r_gI, r_iLD8, r_iLD5, r_iST9, r_iLD9, cl_25, cl_34, r_IINC9, r_IINC6, r_iRET, eq_self, Int.reduceLT, Int.reduceLE, Int.reduceEq, true_or, or_true, and_self, true_and, and_true, w8_0, w8_1, w8_2, w8_3, w8_4, nl_I, nl_P, nl_X, pu_I, pu_J, pu_V, w3_id, Int.add_zero, lo 0 (by decide), hnb]
    rw [if_pos (by omega), ju_126_127]
    simp (disch := first | assumption | omega | exact w8_0 | exact w8_1 _ | exact w8_2 _ _ | exact w8_3 _ _ _ | exact w8_4 _ _ _ _ | exact nl_I _ | exact nl_P _ | exact nl_X | decide | exact w8_5 _ _ _ _ _) only [r_aLD1, r_bPUSH, r_iCONST, r_iALDc, r_iALDs, r_iADD, r_iST3, r_iLD3, r_IC1, r_GOTO, r_iLD2, r_iST4, r_aLD0, r_pZ, r_pI, r_iST5, r_iST6, r_iLD6, r_IC3, cl_45, r_IF0, cl_123, r_iLD4, cl_124, r_iST7, r_iLD7, r_IF2, cl_18, r_DUP2, r_iSHL, r_iOR, r_iASTc, cl_125, r_iST8, r_gI, r_iLD8, r_iLD5, r_iST9, r_iLD9, cl_25, cl_34, r_IINC9, r_IINC6, r_iRET, eq_self, Int.reduceLT, Int.reduceLE, Int.reduceEq, true_or, or_true, and_self, true_and, and_true, w8_0, w8_1, w8_2, w8_3, w8_4, nl_I, nl_P, nl_X, pu_I, pu_J, pu_V, w3_id, Int.add_zero, r_DUP2, lo 3 (by decide), hst]
    exact hq h' hG
  | succ k ih =>
    intro B h' v7 v8 v9 hB hG
    have lo : ∀ k : Int, k < 6 → h' c k = h c k := fun k q => by
      rcases hG.2.1 k with z | ⟨u, z1, z2⟩ | z
      · omega
      · omega
      · exact z
    have rd := (GI_read h8 hs2.1 (by omega) hG).1
    have hbB := hbk B (by omega)
    have hb' : bk h' c B := by
      unfold bk
      rw [rd _ (by omega) (by omega), rd _ (by omega) (by omega), rd _ (by omega) (by omega), rd _ (by omega) (by omega)]
      exact hbB
    have hN := GI_step hc h8 hs2.1 (by omega) hbB hG
    have eC := (GI_mC h8 hs2.1 (by omega) hG).1
    refine st_bag hk hc hl h8 (by rw [lo 1 (by decide)]; exact hn) (nb := nb) (by rw [lo 0 (by decide)]; exact hnb) hnb3 (GI_tk h8 (by omega) ht hG) ⟨by omega, by omega⟩ hb' hj (by rw [lo 3 (by decide)]; exact hst) hs2 (fL_lt h8 B) (fun v7 v8 v9 => ?_)
    rw [eC]
    have := ih (B + 1) _ v7 v8 v9 (by omega) hN
    rw [fL] at this
    exact this
def h00 (h : am_F) : am_F := up (up h 149 13 0) 149 15 0
set_option maxHeartbeats 1000000 in
theorem s_goes (hk : kd c = 20) (hc : c ≠ 149) (hl : ln c = 238) (h8 : n ≤ 8) (hn : h c 1 = (n : Int)) (hnb : h c 0 = (nb : Int)) (hnb3 : nb ≤ 3) (ht : tk h c n) (hbk : ∀ b : Nat, b < nb → bk h c b) (hbj : 0 ≤ bj ∧ bj ≤ 7) (hst : h c 3 = st) (hs2 : 0 ≤ st ∧ st < 20) (hso : h c (66 + st) = so)
    (hq : ∀ h', GI (h00 h) h' c n so (jl so bj) st nb → Q (aI (fL (h00 h) c n so (jl so bj) nb : Int)) (sT (up h' c 3 (st + 1)))) : wp 126 (am_ju 126 0) [aP 149, aP c, aI bj, aX, aX, aX, aX, aX, aX, aX] [] (sT h) Q := by
  have e : h00 h c = h c := by unfold h00; rw [up_ne hc, up_ne hc]
  have key : ∀ j, j = jl so bj → wp 126 (am_ju 126 24) [aP 149, aP c, aI bj, aI so, aX, aX, aX, aX, aX, aX] [aI j] (sT h) Q := by
    intro j ej
    rw [ju_126_24]
    simp (disch := first | assumption | omega | exact w8_0 | exact w8_1 _ | exact w8_2 _ _ | exact w8_3 _ _ _ | exact w8_4 _ _ _ _ | exact nl_I _ | exact nl_P _ | exact nl_X | decide | exact w8_5 _ _ _ _ _) only [r_aLD1, r_bPUSH, r_iCONST, r_iALDc, r_iALDs, r_iADD, r_iST3, r_iLD3, r_IC1, r_GOTO, r_iLD2, r_iST4, r_aLD0, r_pZ, r_pI, r_iST5, r_iST6, r_iLD6, r_IC3, cl_45, r_IF0, cl_123, r_iLD4, cl_124, r_iST7, r_iLD7, r_IF2, cl_18, r_DUP2, r_iSHL, r_iOR, r_iASTc, cl_125, r_iST8, r_gI, r_iLD8, r_iLD5, r_iST9, r_iLD9, cl_25, cl_34, r_IINC9, r_IINC6, r_iRET, eq_self, Int.reduceLT, Int.reduceLE, Int.reduceEq, true_or, or_true, and_self, true_and, and_true, w8_0, w8_1, w8_2, w8_3, w8_4, nl_I, nl_P, nl_X, pu_I, pu_J, pu_V, w3_id, Int.add_zero, kd_149, r_pZ]
    subst ej
    refine lp_goes (h := h00 h) hk hc hl h8 (by rw [e]; exact hn) (by rw [e]; exact hnb) hnb3 ?_ ?_ (jl_r hbj) (by rw [e]; exact hst) ⟨hs2.1, by omega⟩ hq nb 0 (h00 h) aX aX aX (Nat.zero_add nb) GI_0
    · intro t h1; rw [e]; exact ht t h1
    · intro b h1
      have := hbk b h1
      unfold bk at this ⊢
      rw [e]; exact this
  rw [ju_126_0]
  simp (disch := first | assumption | omega | exact w8_0 | exact w8_1 _ | exact w8_2 _ _ | exact w8_3 _ _ _ | exact w8_4 _ _ _ _ | exact nl_I _ | exact nl_P _ | exact nl_X | decide | exact w8_5 _ _ _ _ _) only [r_aLD1, r_bPUSH, r_iCONST, r_iALDc, r_iALDs, r_iADD, r_iST3, r_iLD3, r_IC1, r_GOTO, r_iLD2, r_iST4, r_aLD0, r_pZ, r_pI, r_iST5, r_iST6, r_iLD6, r_IC3, cl_45, r_IF0, cl_123, r_iLD4, cl_124, r_iST7, r_iLD7, r_IF2, cl_18, r_DUP2, r_iSHL, r_iOR, r_iASTc, cl_125, r_iST8, r_gI, r_iLD8, r_iLD5, r_iST9, r_iLD9, cl_25, cl_34, r_IINC9, r_IINC6, r_iRET, eq_self, Int.reduceLT, Int.reduceLE, Int.reduceEq, true_or, or_true, and_self, true_and, and_true, w8_0, w8_1, w8_2, w8_3, w8_4, nl_I, nl_P, nl_X, pu_I, pu_J, pu_V, w3_id, Int.add_zero, hst, hso]
  by_cases h1 : so = 1
  · rw [if_neg (by simpa using h1)]
    exact key 2 (by simp [jl, h1])
  · rw [if_pos h1, ju_126_13]
    simp only [r_aLD1, r_bPUSH, r_iCONST, r_iALD, r_iALDs, r_iADD, r_iST3, r_iLD3, r_IC1, r_GOTO, r_iLD2, r_iST4, r_aLD0, r_pZ, r_pI, r_iST5, r_iST6, r_iLD6, r_IC3, cl_45, r_IF0, cl_123, r_iLD4, cl_124, r_iST7, r_iLD7, r_IF2, cl_18, r_DUP2, r_iSHL, r_iOR, r_iAST, cl_125, r_iST8, r_gI, r_iLD8, r_iLD5, r_iST9, r_iLD9, cl_25, cl_34, r_IINC9, r_IINC6, r_iRET, eq_self, Int.reduceLT, Int.reduceLE, Int.reduceEq, true_or, or_true, and_self, true_and, and_true, w8_0, w8_1, w8_2, w8_3, w8_4, nl_I, nl_P, nl_X, pu_I, pu_J, pu_V]
    by_cases h2 : so = 2
    · rw [if_neg (by simpa using h2)]
      exact key 3 (by simp [jl, h2])
    · rw [if_pos h2, ju_126_18]
      simp only [r_aLD1, r_bPUSH, r_iCONST, r_iALD, r_iALDs, r_iADD, r_iST3, r_iLD3, r_IC1, r_GOTO, r_iLD2, r_iST4, r_aLD0, r_pZ, r_pI, r_iST5, r_iST6, r_iLD6, r_IC3, cl_45, r_IF0, cl_123, r_iLD4, cl_124, r_iST7, r_iLD7, r_IF2, cl_18, r_DUP2, r_iSHL, r_iOR, r_iAST, cl_125, r_iST8, r_gI, r_iLD8, r_iLD5, r_iST9, r_iLD9, cl_25, cl_34, r_IINC9, r_IINC6, r_iRET, eq_self, Int.reduceLT, Int.reduceLE, Int.reduceEq, true_or, or_true, and_self, true_and, and_true, w8_0, w8_1, w8_2, w8_3, w8_4, nl_I, nl_P, nl_X, pu_I, pu_J, pu_V]
      by_cases h3 : so = 3
      · rw [if_neg (by simpa using h3)]
        exact key bj (by simp [jl, h3])
      · rw [if_pos h3, ju_126_23]
        simp only [r_aLD1, r_bPUSH, r_iCONST, r_iALD, r_iALDs, r_iADD, r_iST3, r_iLD3, r_IC1, r_GOTO, r_iLD2, r_iST4, r_aLD0, r_pZ, r_pI, r_iST5, r_iST6, r_iLD6, r_IC3, cl_45, r_IF0, cl_123, r_iLD4, cl_124, r_iST7, r_iLD7, r_IF2, cl_18, r_DUP2, r_iSHL, r_iOR, r_iAST, cl_125, r_iST8, r_gI, r_iLD8, r_iLD5, r_iST9, r_iLD9, cl_25, cl_34, r_IINC9, r_IINC6, r_iRET, eq_self, Int.reduceLT, Int.reduceLE, Int.reduceEq, true_or, or_true, and_self, true_and, and_true, w8_0, w8_1, w8_2, w8_3, w8_4, nl_I, nl_P, nl_X, pu_I, pu_J, pu_V]
        exact key 0 (by simp [jl, h1, h2, h3])
end GT
end
section
section CP
variable {h : am_F} {Q : am_V → am_S → Prop} {c d : Int}
theorem cpy_s {t : Nat} (hcd : c ≠ d) : up (cpy h c 0 d 0 (t : Int)) d (t : Int) (cpy h c 0 d 0 (t : Int) c (t : Int)) = cpy h c 0 d 0 ((t + 1 : Nat) : Int) := by
  have e : cpy h c 0 d 0 (t : Int) c (t : Int) = h c t := by unfold cpy; rw [if_neg (fun z => hcd z.1)]
  rw [e]
  funext a k
  unfold up cpy
  by_cases h1 : a = d ∧ k = (t : Int)
  · obtain ⟨rfl, rfl⟩ := h1
    rw [if_pos ⟨rfl, rfl⟩, if_pos ⟨rfl, by omega, by omega⟩]
    congr 1; omega
  · rw [if_neg h1]
    by_cases h2 : a = d ∧ 0 ≤ k ∧ k < 0 + (t : Int)
    · rw [if_pos h2, if_pos ⟨h2.1, h2.2.1, by omega⟩]
    · rw [if_neg h2, if_neg (fun z => h2 ⟨z.1, z.2.1, by
        have : ¬ k = (t : Int) := fun q => h1 ⟨z.1, q⟩
        have := z.2.2
        omega⟩)]
theorem lp_copies (hk : kd c = 20) (hl : ln c = 238) (hkd : kd d = 20) (hld : ln d = 238) (hcd : c ≠ d) : ∀ (k t : Nat), t + k = 238 → (wp 90 (am_ju 90 2) [aP c, aP d, aI (t : Int)] [] (sT (cpy h c 0 d 0 (t : Int))) Q ↔ Q aV (sT (cpy h c 0 d 0 238))) := by
  intro k
  induction k with
  | zero =>
    intro t ht
    have ht : t = 238 := by omega
    subst ht
    rw [ju_90_2]
    simp only [ju_90_13, r_iCONST, r_iST2, r_iLD2, r_sPUSH, r_IC3, r_aLD1, r_aLD0, r_iALD, r_iALDs, r_iAST, r_IINC2, r_GOTO, r_vRET, eq_self, Int.reduceLT, Int.reduceLE, Int.reduceEq, true_or, or_true, and_self, true_and, and_true, w8_0, w8_1, w8_2, w8_3, w8_4, nl_I, nl_P, nl_X, pu_I, pu_J, pu_V]
    rw [if_pos (by decide)]
    exact Iff.rfl
  | succ k ih =>
    intro t ht
    have hw : w3 ((t : Int) + 1) = ((t + 1 : Nat) : Int) := w3_id (by omega) (by omega)
    rw [ju_90_2]
    simp (disch := first | assumption | omega | exact w8_0 | exact w8_1 _ | exact w8_2 _ _ | exact w8_3 _ _ _ | exact w8_4 _ _ _ _ | exact nl_I _ | exact nl_P _ | exact nl_X | decide | exact w8_5 _ _ _ _ _) only [r_iCONST, r_iST2, r_iLD2, r_sPUSH, r_IC3, r_aLD1, r_aLD0, r_iALDc, r_iALDs, r_iASTc, r_IINC2, r_GOTO, r_vRET, eq_self, Int.reduceLT, Int.reduceLE, Int.reduceEq, true_or, or_true, and_self, true_and, and_true, w8_0, w8_1, w8_2, w8_3, w8_4, nl_I, nl_P, nl_X, pu_I, pu_J, pu_V, w3_id, Int.add_zero, hw]
    rw [if_neg (by omega), cpy_s hcd]
    exact ih (t + 1) (by omega)
theorem s_copies (hk : kd c = 20) (hl : ln c = 238) (hkd : kd d = 20) (hld : ln d = 238) (hcd : c ≠ d) : wp 90 (am_ju 90 0) [aP c, aP d, aX] [] (sT h) Q ↔ Q aV (sT (cpy h c 0 d 0 238)) := by
  have := lp_copies (h := h) (Q := Q) hk hl hkd hld hcd 238 0 rfl
  have e : cpy h c 0 d 0 ((0 : Nat) : Int) = h := by
    funext a k; unfold cpy; rw [if_neg (fun z => by have := z.2; omega)]
  rw [e] at this
  rw [ju_90_0]
  simp only [r_iCONST, r_iST2, r_iLD2, r_sPUSH, r_IC3, r_aLD1, r_aLD0, r_iALD, r_iALDs, r_iAST, r_IINC2, r_GOTO, r_vRET, eq_self, Int.reduceLT, Int.reduceLE, Int.reduceEq, true_or, or_true, and_self, true_and, and_true, w8_0, w8_1, w8_2, w8_3, w8_4, nl_I, nl_P, nl_X, pu_I, pu_J, pu_V]
  exact this
theorem cpy_d {k : Int} (h0 : 0 ≤ k) (h1 : k < 238) : cpy h c 0 d 0 238 d k = h c k := by
  unfold cpy; rw [if_pos ⟨rfl, h0, by omega⟩]; congr 1; omega
theorem cpy_n {a : Int} (ha : a ≠ d) : cpy h c 0 d 0 238 a = h a := by
  funext k; unfold cpy; rw [if_neg (fun z => ha z.1)]
end CP
end
section
/-- the step at which a bag gives first (99: none), by numbers -/
def fg0 (so : Nat → Int) (k bj W D E : Int) (g : Nat) : Nat → Nat → Int → Int → Int
  | 0, _, _, _ => 99
  | m + 1, s, w, r => if 0 ≤ weak k (ageW w D) (ageR r E (so s)) g W E (so s) (jl (so s) bj) then (s : Int) else fg0 so k bj W D E g m (s + 1) (ageW w D) (ageR r E (so s))
theorem fgv_fg0 (h : am_F) (k : Int) (g S : Nat) (bj : Int) : ∀ (m s : Nat) (w r : Int), fgv h k g S bj m s w r = fg0 (fun s => sortI h s) k bj (sumS (h 83) S 8) (sumS (h 84) S 8) (sumS (h 85) S 8) g m s w r := by
  intro m
  induction m with
  | zero => intro s w r; rfl
  | succ m ih =>
    intro s w r
    rw [fgv, fg0, ih]
    rfl
theorem fg0_ge {so : Nat → Int} {k bj W D E : Int} {g : Nat} : ∀ (m s : Nat) (w r : Int), s + m ≤ 99 → (s : Int) ≤ fg0 so k bj W D E g m s w r := by
  intro m
  induction m with
  | zero => intro s w r h1; rw [fg0]; omega
  | succ m ih =>
    intro s w r h1
    rw [fg0]
    split
    · omega
    · have := ih (s + 1) (ageW w D) (ageR r E (so s)) (by omega)
      omega
def minB (f : Nat → Int) : Nat → Int
  | 0 => 99
  | b + 1 => if f b < minB f b then f b else minB f b
theorem minB_le (f : Nat → Int) : ∀ B, minB f B ≤ 99 ∧ ∀ b, b < B → minB f B ≤ f b := by
  intro B
  induction B with
  | zero => exact ⟨by simp [minB], fun b hb => absurd hb (by omega)⟩
  | succ B ih =>
    rw [minB]
    refine ⟨by split <;> omega, fun b hb => ?_⟩
    by_cases h1 : b = B
    · subst h1; split <;> omega
    · have := ih.2 b (by omega)
      split <;> omega
theorem minB_at (f : Nat → Int) : ∀ B, minB f B = 99 ∨ ∃ b, b < B ∧ minB f B = f b := by
  intro B
  induction B with
  | zero => exact Or.inl rfl
  | succ B ih =>
    rw [minB]
    split
    · exact Or.inr ⟨B, by omega, rfl⟩
    · rcases ih with q | ⟨b, q1, q2⟩
      · exact Or.inl q
      · exact Or.inr ⟨b, by omega, q2⟩
theorem minB_eq {f g : Nat → Int} : ∀ {B : Nat}, (∀ b, b < B → f b = g b) → minB f B = minB g B := by
  intro B
  induction B with
  | zero => intro _; rfl
  | succ B ih => intro hq; rw [minB, minB, ih (fun b hb => hq b (by omega)), hq B (by omega)]
def bR (h : am_F) (c : Int) (n : Nat) (bj : Int) (m s b : Nat) : Int := if mS h c b n = 0 then 99 else fg0 (fun s => h c (66 + s)) (h c (6 + 4 * b)) bj (sumF (rW h c b 0) n) (sumF (rW h c b 1) n) (sumF (rW h c b 2) n) (h c (6 + 4 * b + 3)).toNat m s (h c (6 + 4 * b + 1)) (h c (6 + 4 * b + 2))
/-- a row in order -/
def RO (h : am_F) (c : Int) (n nb L : Nat) : Prop := h c 0 = (nb : Int) ∧ nb ≤ 3 ∧ h c 1 = (n : Int) ∧ n ≤ 8 ∧ h c 2 = (L : Int) ∧ L ≤ 20 ∧ tk h c n ∧ ∀ b : Nat, b < nb → bk h c b
section HT
variable {h h' : am_F} {Q : am_V → am_S → Prop} {c bj so j st : Int} {n nb L : Nat}
theorem mC_c {h1 h2 : am_F} (e : h1 c = h2 c) (b : Int) : mC h1 c b n so j = mC h2 c b n so j ∧ mP h1 c b n so j = mP h2 c b n so j ∧ mS h1 c b n = mS h2 c b n ∧ gvB h1 c b n so j = gvB h2 c b n so j := by
  have e2 : mS h1 c b n = mS h2 c b n := by unfold mS; rw [e]
  have e3 : ∀ wh, rW h1 c b wh = rW h2 c b wh := fun wh => by unfold rW; rw [e]
  have e4 : mP h1 c b n so j = mP h2 c b n so j := by unfold mP; rw [e, e3, e3, e3]
  refine ⟨by unfold mC; rw [e, e2, e3, e3, e3], e4, e2, by unfold gvB; rw [e2, e4]⟩
theorem anyG_f : ∀ {B : Nat}, anyG h c n so j B = false → ∀ b : Nat, b < B → gvB h c b n so j = false := by
  intro B
  induction B with
  | zero => intro _ b hb; omega
  | succ B ih =>
    intro h1 b hb
    rw [anyG, Bool.or_eq_false_iff] at h1
    by_cases hq : b = B
    · subst hq; exact h1.2
    · exact ih h1.1 b (by omega)
theorem anyG_t : ∀ {B : Nat}, anyG h c n so j B = true → ∃ b : Nat, b < B ∧ gvB h c b n so j = true := by
  intro B
  induction B with
  | zero => intro h1; simp [anyG] at h1
  | succ B ih =>
    intro h1
    rw [anyG, Bool.or_eq_true] at h1
    rcases h1 with q | q
    · obtain ⟨b, q1, q2⟩ := ih q; exact ⟨b, by omega, q2⟩
    · exact ⟨B, by omega, q⟩
theorem gv_f {b : Int} (hq : gvB h c b n so j = false) : mC h c b n so j = if mS h c b n = 0 then (h c (6 + 4 * b + 1), h c (6 + 4 * b + 2), (h c (6 + 4 * b + 3)).toNat, mS h c b n, 0) else (ageW (h c (6 + 4 * b + 1)) (sumF (rW h c b 1) n), ageR (h c (6 + 4 * b + 2)) (sumF (rW h c b 2) n) so, (h c (6 + 4 * b + 3)).toNat, mS h c b n, 0) := by
  unfold mC core
  by_cases h0 : mS h c b n = 0
  · rw [if_pos h0, if_pos h0]
  · rw [if_neg h0, if_neg h0, if_pos]
    unfold gvB at hq
    simp only [h0, ne_eq, not_false_eq_true, decide_true, Bool.true_and, decide_eq_false_iff_not] at hq
    unfold mP at hq
    omega
theorem fL_0 : ∀ {B : Nat}, (∀ b : Nat, b < B → gvB h c b n so j = false) → fL h c n so j B = 0 := by
  intro B
  induction B with
  | zero => intro _; rfl
  | succ B ih =>
    intro hq
    rw [fL, ih (fun b hb => hq b (by omega)), gv_f (hq B (by omega))]
    split <;> simp
/-- a step without a give: all is as before but wet and wear, which are older -/
theorem GI_no (hc : c ≠ 149) (hR : RO h c n nb L) (hno : anyG (h00 h) c n so j nb = false) (hG : GI (h00 h) h' c n so j st nb) : (∀ k : Int, ¬ (6 ≤ k ∧ k < 18) → h' c k = h c k) ∧ (∀ b : Nat, b < nb → h' c (6 + 4 * b) = h c (6 + 4 * b) ∧ h' c (6 + 4 * b + 3) = h c (6 + 4 * b + 3) ∧ h' c (6 + 4 * b + 1) = (if mS h c b n = 0 then h c (6 + 4 * b + 1) else ageW (h c (6 + 4 * b + 1)) (sumF (rW h c b 1) n)) ∧ h' c (6 + 4 * b + 2) = (if mS h c b n = 0 then h c (6 + 4 * b + 2) else ageR (h c (6 + 4 * b + 2)) (sumF (rW h c b 2) n) so)) := by
  obtain ⟨-, hnb3, -, h8, -, -, -, hbk⟩ := hR
  have e : h00 h c = h c := by unfold h00; rw [up_ne hc, up_ne hc]
  have hno2 := anyG_f hno
  have hf := fL_0 hno2
  obtain ⟨g1, g2, g3, -⟩ := hG
  constructor
  · intro k hk
    rcases g2 k with q | ⟨t, q1, q2⟩ | q
    · omega
    · rw [q2, g3 t q1, hf, e]; simp
    · rw [q, e]
  · intro b hb
    obtain ⟨a1, a2, a3, a4⟩ := g1 b hb
    obtain ⟨c1, c2, c3, c4⟩ := mC_c (so := so) (j := j) (n := n) e b
    have hg := hno2 b hb
    rw [c4] at hg
    have hm := gv_f hg
    rw [c1] at a2 a3 a4
    rw [e] at a1
    have hgn : ((h c (6 + 4 * b + 3)).toNat : Int) = h c (6 + 4 * b + 3) := Int.toNat_of_nonneg (hbk b hb).2.2.2.1
    rw [a1, a2, a3, a4, hm]
    by_cases h0 : mS h c b n = 0
    · simp only [if_pos h0]; exact ⟨trivial, hgn, trivial, trivial⟩
    · simp only [if_neg h0]; exact ⟨trivial, hgn, trivial, trivial⟩
end HT
end
section
section HU
variable {h h' : am_F} {Q : am_V → am_S → Prop} {c bj so j st : Int} {n nb L : Nat}
/-- rows that are alike but in wet and wear have the same sets and sums -/
theorem al_S {h1 h2 : am_F} (e : ∀ k : Int, 18 ≤ k → h1 c k = h2 c k) (b : Int) : mS h1 c b n = mS h2 c b n ∧ ∀ wh : Int, 0 ≤ wh → rW h1 c b wh = rW h2 c b wh := by
  constructor
  · unfold mS
    congr 1
    funext t
    rw [e _ (by omega)]
  · intro wh h0
    funext t
    unfold rW
    rw [e _ (by omega), e _ (by omega)]
theorem RO_step (hc : c ≠ 149) (hR : RO h c n nb L) (hno : anyG (h00 h) c n so j nb = false) (hG : GI (h00 h) h' c n so j st nb) (x : Int) : RO (up h' c 3 x) c n nb L := by
  obtain ⟨e1, e2⟩ := GI_no hc hR hno hG
  obtain ⟨r0, hnb3, r1, h8, r2, hL, ht, hbk⟩ := hR
  have f : ∀ k : Int, ¬ (6 ≤ k ∧ k < 18) → k ≠ 3 → up h' c 3 x c k = h c k := fun k q1 q2 => by rw [up_k q2, e1 k q1]
  refine ⟨by rw [f _ (by omega) (by omega), r0], hnb3, by rw [f _ (by omega) (by omega), r1], h8, by rw [f _ (by omega) (by omega), r2], hL, ?_, fun b hb => ?_⟩
  · intro t h1
    rw [f _ (by omega) (by omega), f _ (by omega) (by omega), f _ (by omega) (by omega)]
    exact ht t h1
  · obtain ⟨a1, a2, a3, a4⟩ := e2 b hb
    obtain ⟨b1, b2, b3, b4⟩ := hbk b hb
    obtain ⟨d1, d2, d3⟩ := tk_r (b := b) h8 ht
    have w1 := ageW_r (D := sumF (rW h c b 1) n) b2 d2.1
    have w2 := ageR_r (so := so) (E := sumF (rW h c b 2) n) b3 d3.1
    unfold bk
    rw [up_k (by omega), up_k (by omega), up_k (by omega), up_k (by omega), a1, a2, a3, a4]
    refine ⟨b1, ?_, ?_, b4⟩
    · split <;> omega
    · split <;> omega
theorem bR_step (hc : c ≠ 149) (hR : RO h c n nb L) {s m : Nat} (hso : h c (66 + s) = so) (hno : anyG (h00 h) c n so (jl so bj) nb = false) (hG : GI (h00 h) h' c n so (jl so bj) st nb) (x : Int) {b : Nat} (hb : b < nb) : bR (up h' c 3 x) c n bj m (s + 1) b = bR h c n bj (m + 1) s b := by
  obtain ⟨e1, e2⟩ := GI_no hc hR hno hG
  obtain ⟨a1, a2, a3, a4⟩ := e2 b hb
  have e : h00 h c = h c := by unfold h00; rw [up_ne hc, up_ne hc]
  obtain ⟨z1, z2⟩ := al_S (h1 := up h' c 3 x) (h2 := h) (c := c) (n := n) (fun k q => by rw [up_k (by omega), e1 k (by omega)]) b
  have hg := anyG_f hno b hb
  rw [(mC_c (so := so) (j := jl so bj) (n := n) e b).2.2.2] at hg
  unfold bR
  rw [z1, z2 0 (by decide), z2 1 (by decide), z2 2 (by decide)]
  have hs : (fun s : Nat => up h' c 3 x c (66 + s)) = fun s : Nat => h c (66 + s) := by
    funext s; rw [up_k (by omega), e1 _ (by omega)]
  rw [hs, up_k (by omega), up_k (by omega), up_k (by omega), up_k (by omega), a1, a2, a3, a4]
  by_cases h0 : mS h c b n = 0
  · rw [if_pos h0, if_pos h0]
  · rw [if_neg h0, if_neg h0, if_neg h0, if_neg h0, fg0]
    rw [if_neg]
    · rw [hso]
    · rw [hso]
      unfold gvB at hg
      simp only [h0, ne_eq, not_false_eq_true, decide_true, Bool.true_and, decide_eq_false_iff_not] at hg
      unfold mP at hg
      exact hg
theorem bR_ge {m s b : Nat} (hms : s + m ≤ 99) : (s : Int) ≤ bR h c n bj m s b := by
  unfold bR
  split
  · omega
  · exact fg0_ge m s _ _ hms
theorem bR_give {m s b : Nat} (hso : h c (66 + s) = so) (hg : gvB h c b n so (jl so bj) = true) : bR h c n bj (m + 1) s b = (s : Int) := by
  unfold gvB at hg
  simp only [Bool.and_eq_true, decide_eq_true_eq] at hg
  unfold bR
  rw [if_neg hg.1, fg0, if_pos]
  rw [hso]
  have := hg.2
  unfold mP at this
  exact this
/-- other cells are as they were; of the reference's own only 13 and 15 may differ -/
def scT (h h' : am_F) : Prop := (∀ a : Int, a ≠ 151 → a ≠ 149 → h' a = h a) ∧ ∀ k : Int, k ≠ 13 → k ≠ 15 → h' 149 k = h 149 k
theorem lp_hold (hbj : 0 ≤ bj ∧ bj ≤ 7) : ∀ (m s : Nat) (h : am_F), RO h 151 n nb L → h 151 3 = (s : Int) → s + m = L → (∀ h', scT h h' → Q (aI (if minB (bR h 151 n bj m s) nb = 99 then (L : Int) else minB (bR h 151 n bj m s) nb)) (sT h')) → wp 139 (am_ju 139 0) [aP 149, aI bj] [] (sT h) Q := by
  intro m
  induction m with
  | zero =>
    intro s h hR hs hm hq
    obtain ⟨r0, hnb3, r1, h8, r2, hL, ht, hbk⟩ := id hR
    have hz : minB (bR h 151 n bj 0 s) nb = 99 := by
      rcases minB_at (bR h 151 n bj 0 s) nb with q | ⟨b, q1, q2⟩
      · exact q
      · rw [q2]; unfold bR; split <;> rfl
    rw [ju_139_0]
    simp only [ju_139_25, r_aLD0, r_gR, r_iCONST, r_iALD, r_iALDs, r_IC3, r_iLD1, cl_126, r_POP, r_gI, r_IF0, r_iSUB, r_iRET, eq_self, Int.reduceLT, Int.reduceLE, Int.reduceEq, true_or, or_true, and_self, true_and, and_true, w8_0, w8_1, w8_2, w8_3, w8_4, nl_I, nl_P, nl_X, pu_I, pu_J, pu_V, kd_149, ln_149, rR_149_0, rR_149_1, rR_149_2, rR_149_3, rR_149_5, rR_149_7, rR_149_8, rR_149_9, rR_149_10, rR_149_16, rR_149_17, rR_149_18, kd_151, ln_151, hs, r2]
    have := hq h ⟨fun _ _ _ => rfl, fun _ _ _ => rfl⟩
    rw [if_pos hz] at this
    simp only [show (L : Int) ≤ (s : Int) from by omega, if_true]
    exact this
  | succ m ih =>
    intro s h hR hs hm hq
    obtain ⟨r0, hnb3, r1, h8, r2, hL, ht, hbk⟩ := id hR
    rw [ju_139_0]
    simp only [r_aLD0, r_gR, r_iCONST, r_iALD, r_iALDs, r_IC3, r_iLD1, cl_126, r_POP, r_gI, r_IF0, r_iSUB, r_iRET, eq_self, Int.reduceLT, Int.reduceLE, Int.reduceEq, true_or, or_true, and_self, true_and, and_true, w8_0, w8_1, w8_2, w8_3, w8_4, nl_I, nl_P, nl_X, pu_I, pu_J, pu_V, kd_149, ln_149, rR_149_0, rR_149_1, rR_149_2, rR_149_3, rR_149_5, rR_149_7, rR_149_8, rR_149_9, rR_149_10, rR_149_16, rR_149_17, rR_149_18, kd_151, ln_151, hs, r2, true_and]
    rw [if_neg (by omega)]
    refine s_goes (so := h 151 (66 + s)) (st := (s : Int)) (nb := nb) (n := n) kd_151 (by decide) ln_151 h8 r1 r0 hnb3 ht hbk hbj hs ⟨by omega, by omega⟩ rfl (fun h' hG => ?_)
    generalize hso : h 151 (66 + (s : Int)) = so at *
    have e13 : up h' 151 3 ((s : Int) + 1) 149 13 = if anyG (h00 h) 151 n so (jl so bj) nb = true then 1 else 0 := by
      rw [up_ne (by decide), hG.2.2.2.2.2.1]
      rfl
    have hsc : scT h (up h' 151 3 ((s : Int) + 1)) := by
      refine ⟨fun a q1 q2 => ?_, fun k q1 q2 => ?_⟩
      · rw [up_ne q1, hG.2.2.2.1 a q1 q2]; unfold h00; rw [up_ne q2, up_ne q2]
      · rw [up_ne (by decide), hG.2.2.2.2.1 k q1 q2]; unfold h00; rw [up_k q2, up_k q1]
    simp only [r_aLD0, r_gR, r_iCONST, r_iALD, r_iALDs, r_IC3, r_iLD1, cl_126, r_POP, r_gI, r_IF0, r_iSUB, r_iRET, eq_self, Int.reduceLT, Int.reduceLE, Int.reduceEq, true_or, or_true, and_self, true_and, and_true, w8_0, w8_1, w8_2, w8_3, w8_4, nl_I, nl_P, nl_X, pu_I, pu_J, pu_V, kd_149, ln_149, rR_149_0, rR_149_1, rR_149_2, rR_149_3, rR_149_5, rR_149_7, rR_149_8, rR_149_9, rR_149_10, rR_149_16, rR_149_17, rR_149_18, kd_151, ln_151, e13, up_s]
    by_cases hg : anyG (h00 h) 151 n so (jl so bj) nb = true
    · simp only [hg, if_true, Int.reduceEq, if_false]
      rw [w3_id (by omega) (by omega), show (s : Int) + 1 - 1 = (s : Int) by omega]
      obtain ⟨b, hb, hgb⟩ := anyG_t hg
      rw [(mC_c (h1 := h00 h) (h2 := h) (c := 151) (so := so) (j := jl so bj) (n := n) (by unfold h00; rw [up_ne (by decide), up_ne (by decide)]) b).2.2.2] at hgb
      have hmin : minB (bR h 151 n bj (m + 1) s) nb = (s : Int) := by
        have l1 := (minB_le (bR h 151 n bj (m + 1) s) nb).2 b hb
        rw [bR_give hso hgb] at l1
        rcases minB_at (bR h 151 n bj (m + 1) s) nb with q | ⟨b2, q1, q2⟩
        · omega
        · have := bR_ge (h := h) (c := 151) (n := n) (bj := bj) (m := m + 1) (s := s) (b := b2) (by omega)
          omega
      have := hq _ hsc
      rw [hmin, if_neg (by omega)] at this
      exact this
    · have hg' : anyG (h00 h) 151 n so (jl so bj) nb = false := by simpa using hg
      simp only [hg, if_true, if_false]
      refine ih (s + 1) _ (RO_step (by decide) hR hg' hG _) (by rw [up_s]; omega) (by omega) (fun h2 hs2 => ?_)
      have e : minB (bR (up h' 151 3 ((s : Int) + 1)) 151 n bj m (s + 1)) nb = minB (bR h 151 n bj (m + 1) s) nb := minB_eq (fun b hb => bR_step (by decide) hR hso hg' hG _ hb)
      rw [e]
      exact hq h2 ⟨fun a q1 q2 => by rw [hs2.1 a q1 q2, hsc.1 a q1 q2], fun k q1 q2 => by rw [hs2.2 k q1 q2, hsc.2 k q1 q2]⟩
end HU
end
section
/-- the class's world in order: n things, nb bags, a way of L steps, the step s -/
def CO (h : am_F) (n nb L s : Nat) : Prop := h 81 6 = (nb : Int) ∧ nb ≤ 3 ∧ h 81 7 = (n : Int) ∧ n ≤ 8 ∧ h 88 1 = (L : Int) ∧ L ≤ 20 ∧ h 90 4 = (s : Int) ∧ s ≤ L ∧ (∀ t : Nat, t < n → (0 ≤ h 83 t ∧ h 83 t ≤ 30) ∧ (0 ≤ h 84 t ∧ h 84 t ≤ 5) ∧ (0 ≤ h 85 t ∧ h 85 t ≤ 5)) ∧ ∀ b : Nat, b < nb → (0 ≤ h 82 b ∧ h 82 b ≤ 3) ∧ (0 ≤ h 91 b ∧ h 91 b ≤ 999) ∧ (0 ≤ h 92 b ∧ h 92 b ≤ 999) ∧ (0 ≤ h 93 b ∧ h 93 b < 16)
def cS (h : am_F) (b : Int) (n : Nat) : Nat := setF (fun t => decide (h 94 t = b)) n
def tR (h h' : am_F) : Prop := ∀ a : Int, a ≠ 138 → h' a = h a
def cR (h : am_F) (n L s : Nat) (bj dbl : Int) (b : Nat) : Int := if cS h b n = 0 then 99 else fgv h (if (b : Int) = dbl then 1 else h 82 b) (h 93 b).toNat (cS h b n) bj (L - s) s (h 91 b) (h 92 b)
section CK
variable {h h' : am_F} {Q : am_V → am_S → Prop} {bj dbl : Int} {n nb L s : Nat}
theorem cS_lt {b : Int} (h8 : n ≤ 8) : cS h b n < 256 := Nat.lt_of_lt_of_le (setF_lt _ n) (Nat.pow_le_pow_right (n := 2) (j := 8) (by decide) h8)
theorem cS_gd {b : Int} (hC : CO h n nb L s) : gd h (cS h b n) := by
  intro t ht
  unfold cS at ht
  rw [setF_bit, Bool.and_eq_true, decide_eq_true_eq] at ht
  exact hC.2.2.2.2.2.2.2.2.1 t ht.1
theorem CO_t (hC : CO h n nb L s) (ht : tR h h') : CO h' n nb L s := by
  unfold CO at hC ⊢
  rw [ht 81 (by decide), ht 88 (by decide), ht 90 (by decide), ht 83 (by decide), ht 84 (by decide), ht 85 (by decide), ht 82 (by decide), ht 91 (by decide), ht 92 (by decide), ht 93 (by decide)]
  exact hC
theorem cS_t {b : Int} (ht : tR h h') : cS h' b n = cS h b n := by unfold cS; rw [ht 94 (by decide)]
theorem fgv_t (ht : tR h h') (k : Int) (g S : Nat) (bj : Int) (m s : Nat) (w r : Int) : fgv h' k g S bj m s w r = fgv h k g S bj m s w r := by
  rw [fgv_fg0, fgv_fg0, ht 83 (by decide), ht 84 (by decide), ht 85 (by decide)]
  have : (fun s : Nat => sortI h' s) = fun s : Nat => sortI h s := by
    funext s; unfold sortI; rw [ht 88 (by decide), ht 89 (by decide)]
  rw [this]
theorem bS_t {k w r : Int} {g S : Nat} (ht : tR h h') : tR h (bS h' 138 k w r g S) := by
  intro a ha
  have : bS h' 138 k w r g S a = h' a := by
    funext x
    unfold bS bw
    rw [up_ne ha, up_ne ha, up_ne ha, up_ne ha, up_ne ha, up_ne ha, up_ne ha, up_ne ha]
  rw [this, ht a ha]
theorem lp_oFG (hC : CO h n nb L s) (hbj : 0 ≤ bj ∧ bj ≤ 7) (hq : ∀ h', tR h h' → Q (aI (minB (cR h n L s bj dbl) nb)) (sT h')) : ∀ (k b : Nat) (h' : am_F), b + k = nb → tR h h' → wp 136 (am_ju 136 4) [aP 137, aI bj, aI dbl, aI (minB (cR h n L s bj dbl) b), aI (b : Int)] [] (sT h') Q := by
  intro k
  induction k with
  | zero =>
    intro b h' hb ht
    have hb : b = nb := by omega
    subst hb
    have e : h' 81 6 = (b : Int) := by rw [ht 81 (by decide)]; exact hC.1
    rw [ju_136_4]
    simp only [ju_136_43, r_bPUSH, r_iST3, r_iCONST, r_iST4, r_iLD4, r_aLD0, r_gR, r_gI, r_IC3, cl_39, cl_42, r_iLD2, r_IC1, r_pI, r_iLD3, r_iLD1, cl_135, r_MMIN, r_IINC4, r_GOTO, r_iRET, eq_self, Int.reduceLT, Int.reduceLE, Int.reduceEq, true_or, or_true, and_self, true_and, and_true, w8_0, w8_1, w8_2, w8_3, w8_4, nl_I, nl_P, nl_X, pu_I, pu_J, pu_V, kd_137, ln_137, rR_137_0, rR_137_1, rR_137_2, rR_137_3, rR_137_4, rR_137_6, rR_137_7, rR_137_8, kd_80, ln_80, rR_80_0, rR_80_1, rR_80_2, rR_80_3, kd_81, ln_81, rR_81_0, rR_81_1, rR_81_2, rR_81_3, rR_81_4, rR_81_5, e]
    rw [if_pos (by omega)]
    exact hq h' ht
  | succ k ih =>
    intro b h' hb ht
    have hC' := CO_t hC ht
    obtain ⟨c1, c2, c3, c4, c5, c6, c7, c8, c9, c10⟩ := id hC'
    obtain ⟨d1, d2, d3, d4⟩ := c10 b (by omega)
    obtain ⟨g, eg⟩ := Int.eq_ofNat_of_zero_le d4.1
    have hg : g < 16 := by omega
    have hw : w3 ((b : Int) + 1) = ((b + 1 : Nat) : Int) := w3_id (by omega) (by omega)
    have hSl := cS_lt (h := h') (b := b) c4
    have hgd := cS_gd (b := b) hC'
    rw [ju_136_4]
    simp only [r_bPUSH, r_iST3, r_iCONST, r_iST4, r_iLD4, r_aLD0, r_gR, r_gI, r_IC3, cl_39, cl_42, r_iLD2, r_IC1, r_pI, r_iLD3, r_iLD1, cl_135, r_MMIN, r_IINC4, r_GOTO, r_iRET, eq_self, Int.reduceLT, Int.reduceLE, Int.reduceEq, true_or, or_true, and_self, true_and, and_true, w8_0, w8_1, w8_2, w8_3, w8_4, nl_I, nl_P, nl_X, pu_I, pu_J, pu_V, kd_137, ln_137, rR_137_0, rR_137_1, rR_137_2, rR_137_3, rR_137_4, rR_137_6, rR_137_7, rR_137_8, kd_80, ln_80, rR_80_0, rR_80_1, rR_80_2, rR_80_3, kd_81, ln_81, rR_81_0, rR_81_1, rR_81_2, rR_81_3, rR_81_4, rR_81_5, kd_138, ln_138, c1, s_thingsAt c4 c3]
    rw [if_neg (by omega), show setF (fun t => decide (h' 94 t = (b : Int))) n = cS h' b n from rfl]
    simp only [s_load kd_138 ⟨show (0 : Int) ≤ b by omega, show (b : Int) < h' 81 6 by omega, show (b : Int) < 3 by omega⟩ hSl hgd, r_bPUSH, r_iST3, r_iCONST, r_iST4, r_iLD4, r_aLD0, r_gR, r_gI, r_IC3, cl_39, cl_42, r_iLD2, r_IC1, r_pI, r_iLD3, r_iLD1, cl_135, r_MMIN, r_IINC4, r_GOTO, r_iRET, eq_self, Int.reduceLT, Int.reduceLE, Int.reduceEq, true_or, or_true, and_self, true_and, and_true, w8_0, w8_1, w8_2, w8_3, w8_4, nl_I, nl_P, nl_X, pu_I, pu_J, pu_V, kd_137, ln_137, rR_137_0, rR_137_1, rR_137_2, rR_137_3, rR_137_4, rR_137_6, rR_137_7, rR_137_8, kd_80, ln_80, rR_80_0, rR_80_1, rR_80_2, rR_80_3, kd_81, ln_81, rR_81_0, rR_81_1, rR_81_2, rR_81_3, rR_81_4, rR_81_5, kd_138, ln_138]
    rw [eg, show bw h' 138 (h' 82 b) (h' 91 b) (h' 92 b) ((g : Nat) : Int) (cS h' b n) (sumS (h' 83) (cS h' b n) 8) (sumS (h' 84) (cS h' b n) 8) (sumS (h' 85) (cS h' b n) 8) = bS h' 138 (h' 82 b) (h' 91 b) (h' 92 b) g (cS h' b n) from rfl]
    have key : ∀ kk : Int, 0 ≤ kk ∧ kk ≤ 3 → kk = (if (b : Int) = dbl then 1 else h 82 b) → wp 136 (am_ju 136 27) [aP 137, aI bj, aI dbl, aI (minB (cR h n L s bj dbl) b), aI (b : Int)] [] (sT (bS h' 138 kk (h' 91 b) (h' 92 b) g (cS h' b n))) Q := by
      intro kk hkk ekk
      have e4 : bS h' 138 kk (h' 91 b) (h' 92 b) g (cS h' b n) 90 4 = (s : Int) := by rw [bS_n kd_138 (by decide)]; exact c7
      rw [ju_136_27]
      simp only [r_bPUSH, r_iST3, r_iCONST, r_iST4, r_iLD4, r_aLD0, r_gR, r_gI, r_IC3, cl_39, cl_42, r_iLD2, r_IC1, r_pI, r_iLD3, r_iLD1, cl_135, r_MMIN, r_IINC4, r_GOTO, r_iRET, eq_self, Int.reduceLT, Int.reduceLE, Int.reduceEq, true_or, or_true, and_self, true_and, and_true, w8_0, w8_1, w8_2, w8_3, w8_4, nl_I, nl_P, nl_X, pu_I, pu_J, pu_V, kd_137, ln_137, rR_137_0, rR_137_1, rR_137_2, rR_137_3, rR_137_4, rR_137_6, rR_137_7, rR_137_8, kd_80, ln_80, rR_80_0, rR_80_1, rR_80_2, rR_80_3, kd_88, ln_88, rR_88_0, kd_90, ln_90, rR_90_0, rR_90_1, rR_90_2, rR_90_3, kd_138, ln_138, e4]
      refine s_firstGive kd_138 hkk d2 d3 hg hgd hbj c5 c6 c8 (fun w' r' => ?_)
      simp only [r_bPUSH, r_iST3, r_iCONST, r_iST4, r_iLD4, r_aLD0, r_gR, r_gI, r_IC3, cl_39, cl_42, r_iLD2, r_IC1, r_pI, r_iLD3, r_iLD1, cl_135, r_MMIN, r_IINC4, r_GOTO, r_iRET, eq_self, Int.reduceLT, Int.reduceLE, Int.reduceEq, true_or, or_true, and_self, true_and, and_true, w8_0, w8_1, w8_2, w8_3, w8_4, nl_I, nl_P, nl_X, pu_I, pu_J, pu_V, hw]
      have := ih (b + 1) (bS h' 138 kk w' r' g (cS h' b n)) (by omega) (bS_t ht)
      rw [minB] at this
      have ec : cR h n L s bj dbl b = if cS h' b n = 0 then 99 else fgv h' kk g (cS h' b n) bj (L - s) s (h' 91 b) (h' 92 b) := by
        unfold cR
        rw [cS_t ht, fgv_t ht, ← ekk, ht 91 (by decide), ht 92 (by decide), ← ht 93 (by decide), eg]
        rfl
      rw [ec] at this
      exact this
    by_cases hd : (b : Int) = dbl
    · rw [if_neg (by simpa using hd)]
      rw [show up (bS h' 138 (h' 82 b) (h' 91 b) (h' 92 b) g (cS h' b n)) 138 0 1 = bS h' 138 1 (h' 91 b) (h' 92 b) g (cS h' b n) from up_0]
      exact key 1 (by omega) (by rw [if_pos hd])
    · rw [if_pos hd]
      exact key (h' 82 b) d1 (by rw [if_neg hd, ht 82 (by decide)])
theorem s_oFG (hC : CO h n nb L s) (hbj : 0 ≤ bj ∧ bj ≤ 7) (hq : ∀ h', tR h h' → Q (aI (minB (cR h n L s bj dbl) nb)) (sT h')) : wp 136 (am_ju 136 0) [aP 137, aI bj, aI dbl, aX, aX] [] (sT h) Q := by
  rw [ju_136_0]
  simp only [r_bPUSH, r_iST3, r_iCONST, r_iST4, r_iLD4, r_aLD0, r_gR, r_gI, r_IC3, cl_39, cl_42, r_iLD2, r_IC1, r_pI, r_iLD3, r_iLD1, cl_135, r_MMIN, r_IINC4, r_GOTO, r_iRET, eq_self, Int.reduceLT, Int.reduceLE, Int.reduceEq, true_or, or_true, and_self, true_and, and_true, w8_0, w8_1, w8_2, w8_3, w8_4, nl_I, nl_P, nl_X, pu_I, pu_J, pu_V]
  exact lp_oFG hC hbj hq nb 0 h (Nat.zero_add nb) (fun _ _ => rfl)
end CK
end
