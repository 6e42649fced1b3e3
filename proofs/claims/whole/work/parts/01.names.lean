-- ===== PART A: goes FIRST, ahead of the names: the tables' words, and 'selects' of the private methods out of them =====
/-- a private method of a class that the tables say can be made, by its rows of tables_1 -/
def lw_okq (q : MethodName × Nat) : Prop := (q.1.cls ≠ "java/lang/invoke/MethodHandle" ∧ q.1.cls ≠ "java/lang/invoke/VarHandle") ∧ Cond.instantiable q.1.cls q.2 ∈ tables_1 ∧ Cond.privateMethod q.1 ∈ tables_1 ∧ Cond.instanceMethod q.1 ∈ tables_1
theorem lw_p0 : lw_okq (⟨"BootSale", "isShelf", "(I)Z"⟩, 7) := ⟨⟨by decide +kernel, by decide +kernel⟩, List.mem_of_getElem? (i := 16) (by decide +kernel), List.mem_of_getElem? (i := 239) (by decide +kernel), List.mem_of_getElem? (i := 240) (by decide +kernel)⟩
theorem lw_p1 : lw_okq (⟨"BootSale", "refuse", "(I)I"⟩, 7) := ⟨⟨by decide +kernel, by decide +kernel⟩, List.mem_of_getElem? (i := 16) (by decide +kernel), List.mem_of_getElem? (i := 246) (by decide +kernel), List.mem_of_getElem? (i := 247) (by decide +kernel)⟩
theorem lw_p2 : lw_okq (⟨"BootSale", "rowRefusal", "(I)I"⟩, 7) := ⟨⟨by decide +kernel, by decide +kernel⟩, List.mem_of_getElem? (i := 16) (by decide +kernel), List.mem_of_getElem? (i := 258) (by decide +kernel), List.mem_of_getElem? (i := 259) (by decide +kernel)⟩
theorem lw_p3 : lw_okq (⟨"BootSale", "isThing", "(I)Z"⟩, 7) := ⟨⟨by decide +kernel, by decide +kernel⟩, List.mem_of_getElem? (i := 16) (by decide +kernel), List.mem_of_getElem? (i := 294) (by decide +kernel), List.mem_of_getElem? (i := 295) (by decide +kernel)⟩
theorem lw_p4 : lw_okq (⟨"BootSale$Tape", "next", "()V"⟩, 7) := ⟨⟨by decide +kernel, by decide +kernel⟩, List.mem_of_getElem? (i := 162) (by decide +kernel), List.mem_of_getElem? (i := 400) (by decide +kernel), List.mem_of_getElem? (i := 401) (by decide +kernel)⟩
theorem lw_p5 : lw_okq (⟨"BootSale$Tape", "readStatement", "(LBootSale$Stall;)Z"⟩, 7) := ⟨⟨by decide +kernel, by decide +kernel⟩, List.mem_of_getElem? (i := 162) (by decide +kernel), List.mem_of_getElem? (i := 405) (by decide +kernel), List.mem_of_getElem? (i := 406) (by decide +kernel)⟩
theorem lw_p6 : lw_okq (⟨"BootSale$Tape", "isWord", "(Ljava/lang/String;)Z"⟩, 7) := ⟨⟨by decide +kernel, by decide +kernel⟩, List.mem_of_getElem? (i := 162) (by decide +kernel), List.mem_of_getElem? (i := 410) (by decide +kernel), List.mem_of_getElem? (i := 411) (by decide +kernel)⟩
theorem lw_p7 : lw_okq (⟨"BootSale$Tape", "readThing", "(LBootSale$Stall;)Z"⟩, 7) := ⟨⟨by decide +kernel, by decide +kernel⟩, List.mem_of_getElem? (i := 162) (by decide +kernel), List.mem_of_getElem? (i := 462) (by decide +kernel), List.mem_of_getElem? (i := 463) (by decide +kernel)⟩
theorem lw_p8 : lw_okq (⟨"BootSale$Tape", "readNumber", "(II)Z"⟩, 7) := ⟨⟨by decide +kernel, by decide +kernel⟩, List.mem_of_getElem? (i := 162) (by decide +kernel), List.mem_of_getElem? (i := 468) (by decide +kernel), List.mem_of_getElem? (i := 469) (by decide +kernel)⟩
theorem lw_p9 : lw_okq (⟨"BootSale$Tape", "readBuyer", "(LBootSale$Stall;)Z"⟩, 7) := ⟨⟨by decide +kernel, by decide +kernel⟩, List.mem_of_getElem? (i := 162) (by decide +kernel), List.mem_of_getElem? (i := 475) (by decide +kernel), List.mem_of_getElem? (i := 476) (by decide +kernel)⟩
theorem lw_p10 : lw_okq (⟨"BootSale$Tape", "readCell", "(LBootSale$Stall;I)Z"⟩, 7) := ⟨⟨by decide +kernel, by decide +kernel⟩, List.mem_of_getElem? (i := 162) (by decide +kernel), List.mem_of_getElem? (i := 483) (by decide +kernel), List.mem_of_getElem? (i := 484) (by decide +kernel)⟩
theorem lw_p11 : lw_okq (⟨"BootSale$Tape", "readSetting", "(LBootSale$Stall;I)Z"⟩, 7) := ⟨⟨by decide +kernel, by decide +kernel⟩, List.mem_of_getElem? (i := 162) (by decide +kernel), List.mem_of_getElem? (i := 489) (by decide +kernel), List.mem_of_getElem? (i := 490) (by decide +kernel)⟩
theorem lw_p12 : lw_okq (⟨"BootSale", "isPlace", "(I)Z"⟩, 7) := ⟨⟨by decide +kernel, by decide +kernel⟩, List.mem_of_getElem? (i := 16) (by decide +kernel), List.mem_of_getElem? (i := 507) (by decide +kernel), List.mem_of_getElem? (i := 508) (by decide +kernel)⟩
theorem lw_p13 : lw_okq (⟨"BootSale", "asItIs", "()LBootSale$Morning;"⟩, 7) := ⟨⟨by decide +kernel, by decide +kernel⟩, List.mem_of_getElem? (i := 16) (by decide +kernel), List.mem_of_getElem? (i := 539) (by decide +kernel), List.mem_of_getElem? (i := 540) (by decide +kernel)⟩
theorem lw_p14 : lw_okq (⟨"BootSale$Morning", "open", "()V"⟩, 17) := ⟨⟨by decide +kernel, by decide +kernel⟩, List.mem_of_getElem? (i := 86) (by decide +kernel), List.mem_of_getElem? (i := 570) (by decide +kernel), List.mem_of_getElem? (i := 571) (by decide +kernel)⟩
theorem lw_p15 : lw_okq (⟨"BootSale$Morning", "nextHour", "(I)V"⟩, 17) := ⟨⟨by decide +kernel, by decide +kernel⟩, List.mem_of_getElem? (i := 86) (by decide +kernel), List.mem_of_getElem? (i := 574) (by decide +kernel), List.mem_of_getElem? (i := 575) (by decide +kernel)⟩
def lw_privs_1 : List (MethodName × Nat) := [(⟨"BootSale", "isShelf", "(I)Z"⟩, 7), (⟨"BootSale", "refuse", "(I)I"⟩, 7), (⟨"BootSale", "rowRefusal", "(I)I"⟩, 7), (⟨"BootSale", "isThing", "(I)Z"⟩, 7), (⟨"BootSale$Tape", "next", "()V"⟩, 7), (⟨"BootSale$Tape", "readStatement", "(LBootSale$Stall;)Z"⟩, 7), (⟨"BootSale$Tape", "isWord", "(Ljava/lang/String;)Z"⟩, 7), (⟨"BootSale$Tape", "readThing", "(LBootSale$Stall;)Z"⟩, 7), (⟨"BootSale$Tape", "readNumber", "(II)Z"⟩, 7), (⟨"BootSale$Tape", "readBuyer", "(LBootSale$Stall;)Z"⟩, 7), (⟨"BootSale$Tape", "readCell", "(LBootSale$Stall;I)Z"⟩, 7), (⟨"BootSale$Tape", "readSetting", "(LBootSale$Stall;I)Z"⟩, 7), (⟨"BootSale", "isPlace", "(I)Z"⟩, 7), (⟨"BootSale", "asItIs", "()LBootSale$Morning;"⟩, 7), (⟨"BootSale$Morning", "open", "()V"⟩, 17), (⟨"BootSale$Morning", "nextHour", "(I)V"⟩, 17)]
theorem lw_r1 : ∀ q ∈ lw_privs_1, lw_okq q := List.forall_mem_cons.mpr ⟨lw_p0, List.forall_mem_cons.mpr ⟨lw_p1, List.forall_mem_cons.mpr ⟨lw_p2, List.forall_mem_cons.mpr ⟨lw_p3, List.forall_mem_cons.mpr ⟨lw_p4, List.forall_mem_cons.mpr ⟨lw_p5, List.forall_mem_cons.mpr ⟨lw_p6, List.forall_mem_cons.mpr ⟨lw_p7, List.forall_mem_cons.mpr ⟨lw_p8, List.forall_mem_cons.mpr ⟨lw_p9, List.forall_mem_cons.mpr ⟨lw_p10, List.forall_mem_cons.mpr ⟨lw_p11, List.forall_mem_cons.mpr ⟨lw_p12, List.forall_mem_cons.mpr ⟨lw_p13, List.forall_mem_cons.mpr ⟨lw_p14, List.forall_mem_cons.mpr ⟨lw_p15, fun _ h => absurd h List.not_mem_nil⟩⟩⟩⟩⟩⟩⟩⟩⟩⟩⟩⟩⟩⟩⟩⟩
theorem lw_p16 : lw_okq (⟨"BootSale$Morning", "serve", "(I[IZ)Z"⟩, 17) := ⟨⟨by decide +kernel, by decide +kernel⟩, List.mem_of_getElem? (i := 86) (by decide +kernel), List.mem_of_getElem? (i := 580) (by decide +kernel), List.mem_of_getElem? (i := 581) (by decide +kernel)⟩
theorem lw_p17 : lw_okq (⟨"BootSale$Morning", "choice", "([I)I"⟩, 17) := ⟨⟨by decide +kernel, by decide +kernel⟩, List.mem_of_getElem? (i := 86) (by decide +kernel), List.mem_of_getElem? (i := 584) (by decide +kernel), List.mem_of_getElem? (i := 585) (by decide +kernel)⟩
theorem lw_p18 : lw_okq (⟨"BootSale$Morning", "close", "()V"⟩, 17) := ⟨⟨by decide +kernel, by decide +kernel⟩, List.mem_of_getElem? (i := 86) (by decide +kernel), List.mem_of_getElem? (i := 590) (by decide +kernel), List.mem_of_getElem? (i := 591) (by decide +kernel)⟩
theorem lw_p19 : lw_okq (⟨"BootSale$Trials", "bestValue", "([IIII)I"⟩, 2) := ⟨⟨by decide +kernel, by decide +kernel⟩, List.mem_of_getElem? (i := 78) (by decide +kernel), List.mem_of_getElem? (i := 650) (by decide +kernel), List.mem_of_getElem? (i := 651) (by decide +kernel)⟩
theorem lw_p20 : lw_okq (⟨"BootSale", "refuseFar", "(I)I"⟩, 7) := ⟨⟨by decide +kernel, by decide +kernel⟩, List.mem_of_getElem? (i := 16) (by decide +kernel), List.mem_of_getElem? (i := 681) (by decide +kernel), List.mem_of_getElem? (i := 682) (by decide +kernel)⟩
theorem lw_p21 : lw_okq (⟨"BootSale", "offerRefusal", "(II)I"⟩, 7) := ⟨⟨by decide +kernel, by decide +kernel⟩, List.mem_of_getElem? (i := 16) (by decide +kernel), List.mem_of_getElem? (i := 696) (by decide +kernel), List.mem_of_getElem? (i := 697) (by decide +kernel)⟩
theorem lw_p22 : lw_okq (⟨"BootSale", "leastWorthTaking", "(II)I"⟩, 7) := ⟨⟨by decide +kernel, by decide +kernel⟩, List.mem_of_getElem? (i := 16) (by decide +kernel), List.mem_of_getElem? (i := 701) (by decide +kernel), List.mem_of_getElem? (i := 702) (by decide +kernel)⟩
theorem lw_p23 : lw_okq (⟨"BootSale", "worthOnTable", "(I)I"⟩, 7) := ⟨⟨by decide +kernel, by decide +kernel⟩, List.mem_of_getElem? (i := 16) (by decide +kernel), List.mem_of_getElem? (i := 742) (by decide +kernel), List.mem_of_getElem? (i := 743) (by decide +kernel)⟩
theorem lw_p24 : lw_okq (⟨"BootSale", "marksRefusal", "(I)I"⟩, 7) := ⟨⟨by decide +kernel, by decide +kernel⟩, List.mem_of_getElem? (i := 16) (by decide +kernel), List.mem_of_getElem? (i := 783) (by decide +kernel), List.mem_of_getElem? (i := 784) (by decide +kernel)⟩
theorem lw_p25 : lw_okq (⟨"BootSale", "firstWrongMark", "(LBootSale$Shelf;)I"⟩, 7) := ⟨⟨by decide +kernel, by decide +kernel⟩, List.mem_of_getElem? (i := 16) (by decide +kernel), List.mem_of_getElem? (i := 787) (by decide +kernel), List.mem_of_getElem? (i := 788) (by decide +kernel)⟩
theorem lw_p26 : lw_okq (⟨"BootSale", "goodMarksRefusal", "(I)I"⟩, 7) := ⟨⟨by decide +kernel, by decide +kernel⟩, List.mem_of_getElem? (i := 16) (by decide +kernel), List.mem_of_getElem? (i := 795) (by decide +kernel), List.mem_of_getElem? (i := 796) (by decide +kernel)⟩
theorem lw_p27 : lw_okq (⟨"BootSale", "takeFromShelves", "(I)V"⟩, 7) := ⟨⟨by decide +kernel, by decide +kernel⟩, List.mem_of_getElem? (i := 16) (by decide +kernel), List.mem_of_getElem? (i := 811) (by decide +kernel), List.mem_of_getElem? (i := 812) (by decide +kernel)⟩
theorem lw_p28 : lw_okq (⟨"BootSale", "fullShelves", "()I"⟩, 7) := ⟨⟨by decide +kernel, by decide +kernel⟩, List.mem_of_getElem? (i := 16) (by decide +kernel), List.mem_of_getElem? (i := 851) (by decide +kernel), List.mem_of_getElem? (i := 852) (by decide +kernel)⟩
theorem lw_p29 : lw_okq (⟨"BootSaleModel", "refuse", "(I)I"⟩, 41) := ⟨⟨by decide +kernel, by decide +kernel⟩, List.mem_of_getElem? (i := 855) (by decide +kernel), List.mem_of_getElem? (i := 999) (by decide +kernel), List.mem_of_getElem? (i := 1000) (by decide +kernel)⟩
theorem lw_p30 : lw_okq (⟨"BootSaleModel", "noRow", "(I)I"⟩, 41) := ⟨⟨by decide +kernel, by decide +kernel⟩, List.mem_of_getElem? (i := 855) (by decide +kernel), List.mem_of_getElem? (i := 1007) (by decide +kernel), List.mem_of_getElem? (i := 1008) (by decide +kernel)⟩
theorem lw_p31 : lw_okq (⟨"BootSaleModel", "isThing", "(I)Z"⟩, 41) := ⟨⟨by decide +kernel, by decide +kernel⟩, List.mem_of_getElem? (i := 855) (by decide +kernel), List.mem_of_getElem? (i := 1030) (by decide +kernel), List.mem_of_getElem? (i := 1031) (by decide +kernel)⟩
def lw_privs_2 : List (MethodName × Nat) := [(⟨"BootSale$Morning", "serve", "(I[IZ)Z"⟩, 17), (⟨"BootSale$Morning", "choice", "([I)I"⟩, 17), (⟨"BootSale$Morning", "close", "()V"⟩, 17), (⟨"BootSale$Trials", "bestValue", "([IIII)I"⟩, 2), (⟨"BootSale", "refuseFar", "(I)I"⟩, 7), (⟨"BootSale", "offerRefusal", "(II)I"⟩, 7), (⟨"BootSale", "leastWorthTaking", "(II)I"⟩, 7), (⟨"BootSale", "worthOnTable", "(I)I"⟩, 7), (⟨"BootSale", "marksRefusal", "(I)I"⟩, 7), (⟨"BootSale", "firstWrongMark", "(LBootSale$Shelf;)I"⟩, 7), (⟨"BootSale", "goodMarksRefusal", "(I)I"⟩, 7), (⟨"BootSale", "takeFromShelves", "(I)V"⟩, 7), (⟨"BootSale", "fullShelves", "()I"⟩, 7), (⟨"BootSaleModel", "refuse", "(I)I"⟩, 41), (⟨"BootSaleModel", "noRow", "(I)I"⟩, 41), (⟨"BootSaleModel", "isThing", "(I)Z"⟩, 41)]
theorem lw_r2 : ∀ q ∈ lw_privs_2, lw_okq q := List.forall_mem_cons.mpr ⟨lw_p16, List.forall_mem_cons.mpr ⟨lw_p17, List.forall_mem_cons.mpr ⟨lw_p18, List.forall_mem_cons.mpr ⟨lw_p19, List.forall_mem_cons.mpr ⟨lw_p20, List.forall_mem_cons.mpr ⟨lw_p21, List.forall_mem_cons.mpr ⟨lw_p22, List.forall_mem_cons.mpr ⟨lw_p23, List.forall_mem_cons.mpr ⟨lw_p24, List.forall_mem_cons.mpr ⟨lw_p25, List.forall_mem_cons.mpr ⟨lw_p26, List.forall_mem_cons.mpr ⟨lw_p27, List.forall_mem_cons.mpr ⟨lw_p28, List.forall_mem_cons.mpr ⟨lw_p29, List.forall_mem_cons.mpr ⟨lw_p30, List.forall_mem_cons.mpr ⟨lw_p31, fun _ h => absurd h List.not_mem_nil⟩⟩⟩⟩⟩⟩⟩⟩⟩⟩⟩⟩⟩⟩⟩⟩
theorem lw_p32 : lw_okq (⟨"BootSaleModel", "addThing", "(IIIII)V"⟩, 41) := ⟨⟨by decide +kernel, by decide +kernel⟩, List.mem_of_getElem? (i := 855) (by decide +kernel), List.mem_of_getElem? (i := 1054) (by decide +kernel), List.mem_of_getElem? (i := 1055) (by decide +kernel)⟩
theorem lw_p33 : lw_okq (⟨"BootSaleModel", "addBuyer", "(III)I"⟩, 41) := ⟨⟨by decide +kernel, by decide +kernel⟩, List.mem_of_getElem? (i := 855) (by decide +kernel), List.mem_of_getElem? (i := 1067) (by decide +kernel), List.mem_of_getElem? (i := 1068) (by decide +kernel)⟩
theorem lw_p34 : lw_okq (⟨"BootSaleModel", "fresh", "()LBootSaleModel;"⟩, 41) := ⟨⟨by decide +kernel, by decide +kernel⟩, List.mem_of_getElem? (i := 855) (by decide +kernel), List.mem_of_getElem? (i := 1106) (by decide +kernel), List.mem_of_getElem? (i := 1107) (by decide +kernel)⟩
theorem lw_p35 : lw_okq (⟨"BootSaleModel", "takeFrom", "(LBootSaleModel;)V"⟩, 41) := ⟨⟨by decide +kernel, by decide +kernel⟩, List.mem_of_getElem? (i := 855) (by decide +kernel), List.mem_of_getElem? (i := 1112) (by decide +kernel), List.mem_of_getElem? (i := 1113) (by decide +kernel)⟩
theorem lw_p36 : lw_okq (⟨"BootSaleModel", "readAll", "()Z"⟩, 41) := ⟨⟨by decide +kernel, by decide +kernel⟩, List.mem_of_getElem? (i := 855) (by decide +kernel), List.mem_of_getElem? (i := 1119) (by decide +kernel), List.mem_of_getElem? (i := 1120) (by decide +kernel)⟩
theorem lw_p37 : lw_okq (⟨"BootSaleModel", "look", "()V"⟩, 41) := ⟨⟨by decide +kernel, by decide +kernel⟩, List.mem_of_getElem? (i := 855) (by decide +kernel), List.mem_of_getElem? (i := 1123) (by decide +kernel), List.mem_of_getElem? (i := 1124) (by decide +kernel)⟩
theorem lw_p38 : lw_okq (⟨"BootSaleModel", "statement", "()Z"⟩, 41) := ⟨⟨by decide +kernel, by decide +kernel⟩, List.mem_of_getElem? (i := 855) (by decide +kernel), List.mem_of_getElem? (i := 1134) (by decide +kernel), List.mem_of_getElem? (i := 1135) (by decide +kernel)⟩
theorem lw_p39 : lw_okq (⟨"BootSaleModel", "isWord", "(Ljava/lang/String;)Z"⟩, 41) := ⟨⟨by decide +kernel, by decide +kernel⟩, List.mem_of_getElem? (i := 855) (by decide +kernel), List.mem_of_getElem? (i := 1139) (by decide +kernel), List.mem_of_getElem? (i := 1140) (by decide +kernel)⟩
theorem lw_p40 : lw_okq (⟨"BootSaleModel", "thingTold", "()Z"⟩, 41) := ⟨⟨by decide +kernel, by decide +kernel⟩, List.mem_of_getElem? (i := 855) (by decide +kernel), List.mem_of_getElem? (i := 1145) (by decide +kernel), List.mem_of_getElem? (i := 1146) (by decide +kernel)⟩
theorem lw_p41 : lw_okq (⟨"BootSaleModel", "tells", "(II)Z"⟩, 41) := ⟨⟨by decide +kernel, by decide +kernel⟩, List.mem_of_getElem? (i := 855) (by decide +kernel), List.mem_of_getElem? (i := 1149) (by decide +kernel), List.mem_of_getElem? (i := 1150) (by decide +kernel)⟩
theorem lw_p42 : lw_okq (⟨"BootSaleModel", "number", "(III)Z"⟩, 41) := ⟨⟨by decide +kernel, by decide +kernel⟩, List.mem_of_getElem? (i := 855) (by decide +kernel), List.mem_of_getElem? (i := 1153) (by decide +kernel), List.mem_of_getElem? (i := 1154) (by decide +kernel)⟩
theorem lw_p43 : lw_okq (⟨"BootSaleModel", "wrong", "()Z"⟩, 41) := ⟨⟨by decide +kernel, by decide +kernel⟩, List.mem_of_getElem? (i := 855) (by decide +kernel), List.mem_of_getElem? (i := 1157) (by decide +kernel), List.mem_of_getElem? (i := 1158) (by decide +kernel)⟩
theorem lw_p44 : lw_okq (⟨"BootSaleModel", "changeTold", "(II)Z"⟩, 41) := ⟨⟨by decide +kernel, by decide +kernel⟩, List.mem_of_getElem? (i := 855) (by decide +kernel), List.mem_of_getElem? (i := 1164) (by decide +kernel), List.mem_of_getElem? (i := 1165) (by decide +kernel)⟩
theorem lw_p45 : lw_okq (⟨"BootSaleModel", "askedTold", "(I)Z"⟩, 41) := ⟨⟨by decide +kernel, by decide +kernel⟩, List.mem_of_getElem? (i := 855) (by decide +kernel), List.mem_of_getElem? (i := 1170) (by decide +kernel), List.mem_of_getElem? (i := 1171) (by decide +kernel)⟩
theorem lw_p46 : lw_okq (⟨"BootSaleModel", "isBuyer", "(I)Z"⟩, 41) := ⟨⟨by decide +kernel, by decide +kernel⟩, List.mem_of_getElem? (i := 855) (by decide +kernel), List.mem_of_getElem? (i := 1185) (by decide +kernel), List.mem_of_getElem? (i := 1186) (by decide +kernel)⟩
theorem lw_p47 : lw_okq (⟨"BootSaleModel", "priceOf", "(II)I"⟩, 41) := ⟨⟨by decide +kernel, by decide +kernel⟩, List.mem_of_getElem? (i := 855) (by decide +kernel), List.mem_of_getElem? (i := 1194) (by decide +kernel), List.mem_of_getElem? (i := 1195) (by decide +kernel)⟩
def lw_privs_3 : List (MethodName × Nat) := [(⟨"BootSaleModel", "addThing", "(IIIII)V"⟩, 41), (⟨"BootSaleModel", "addBuyer", "(III)I"⟩, 41), (⟨"BootSaleModel", "fresh", "()LBootSaleModel;"⟩, 41), (⟨"BootSaleModel", "takeFrom", "(LBootSaleModel;)V"⟩, 41), (⟨"BootSaleModel", "readAll", "()Z"⟩, 41), (⟨"BootSaleModel", "look", "()V"⟩, 41), (⟨"BootSaleModel", "statement", "()Z"⟩, 41), (⟨"BootSaleModel", "isWord", "(Ljava/lang/String;)Z"⟩, 41), (⟨"BootSaleModel", "thingTold", "()Z"⟩, 41), (⟨"BootSaleModel", "tells", "(II)Z"⟩, 41), (⟨"BootSaleModel", "number", "(III)Z"⟩, 41), (⟨"BootSaleModel", "wrong", "()Z"⟩, 41), (⟨"BootSaleModel", "changeTold", "(II)Z"⟩, 41), (⟨"BootSaleModel", "askedTold", "(I)Z"⟩, 41), (⟨"BootSaleModel", "isBuyer", "(I)Z"⟩, 41), (⟨"BootSaleModel", "priceOf", "(II)I"⟩, 41)]
theorem lw_r3 : ∀ q ∈ lw_privs_3, lw_okq q := List.forall_mem_cons.mpr ⟨lw_p32, List.forall_mem_cons.mpr ⟨lw_p33, List.forall_mem_cons.mpr ⟨lw_p34, List.forall_mem_cons.mpr ⟨lw_p35, List.forall_mem_cons.mpr ⟨lw_p36, List.forall_mem_cons.mpr ⟨lw_p37, List.forall_mem_cons.mpr ⟨lw_p38, List.forall_mem_cons.mpr ⟨lw_p39, List.forall_mem_cons.mpr ⟨lw_p40, List.forall_mem_cons.mpr ⟨lw_p41, List.forall_mem_cons.mpr ⟨lw_p42, List.forall_mem_cons.mpr ⟨lw_p43, List.forall_mem_cons.mpr ⟨lw_p44, List.forall_mem_cons.mpr ⟨lw_p45, List.forall_mem_cons.mpr ⟨lw_p46, List.forall_mem_cons.mpr ⟨lw_p47, fun _ h => absurd h List.not_mem_nil⟩⟩⟩⟩⟩⟩⟩⟩⟩⟩⟩⟩⟩⟩⟩⟩
theorem lw_p48 : lw_okq (⟨"BootSaleModel", "startMorning", "()V"⟩, 41) := ⟨⟨by decide +kernel, by decide +kernel⟩, List.mem_of_getElem? (i := 855) (by decide +kernel), List.mem_of_getElem? (i := 1202) (by decide +kernel), List.mem_of_getElem? (i := 1203) (by decide +kernel)⟩
theorem lw_p49 : lw_okq (⟨"BootSaleModel", "findOn", "(I)I"⟩, 41) := ⟨⟨by decide +kernel, by decide +kernel⟩, List.mem_of_getElem? (i := 855) (by decide +kernel), List.mem_of_getElem? (i := 1206) (by decide +kernel), List.mem_of_getElem? (i := 1207) (by decide +kernel)⟩
theorem lw_p50 : lw_okq (⟨"BootSaleModel", "goesBy", "(I)V"⟩, 41) := ⟨⟨by decide +kernel, by decide +kernel⟩, List.mem_of_getElem? (i := 855) (by decide +kernel), List.mem_of_getElem? (i := 1219) (by decide +kernel), List.mem_of_getElem? (i := 1220) (by decide +kernel)⟩
theorem lw_p51 : lw_okq (⟨"BootSaleModel", "choice", "(II)I"⟩, 41) := ⟨⟨by decide +kernel, by decide +kernel⟩, List.mem_of_getElem? (i := 855) (by decide +kernel), List.mem_of_getElem? (i := 1223) (by decide +kernel), List.mem_of_getElem? (i := 1224) (by decide +kernel)⟩
theorem lw_p52 : lw_okq (⟨"BootSaleModel", "payOf", "(III)I"⟩, 41) := ⟨⟨by decide +kernel, by decide +kernel⟩, List.mem_of_getElem? (i := 855) (by decide +kernel), List.mem_of_getElem? (i := 1227) (by decide +kernel), List.mem_of_getElem? (i := 1228) (by decide +kernel)⟩
theorem lw_p53 : lw_okq (⟨"BootSaleModel", "homeNow", "()I"⟩, 41) := ⟨⟨by decide +kernel, by decide +kernel⟩, List.mem_of_getElem? (i := 855) (by decide +kernel), List.mem_of_getElem? (i := 1251) (by decide +kernel), List.mem_of_getElem? (i := 1252) (by decide +kernel)⟩
theorem lw_p54 : lw_okq (⟨"BootSaleModel", "gainNow", "()I"⟩, 41) := ⟨⟨by decide +kernel, by decide +kernel⟩, List.mem_of_getElem? (i := 855) (by decide +kernel), List.mem_of_getElem? (i := 1259) (by decide +kernel), List.mem_of_getElem? (i := 1260) (by decide +kernel)⟩
theorem lw_p55 : lw_okq (⟨"BootSaleModel", "bestOf", "(III)I"⟩, 41) := ⟨⟨by decide +kernel, by decide +kernel⟩, List.mem_of_getElem? (i := 855) (by decide +kernel), List.mem_of_getElem? (i := 1267) (by decide +kernel), List.mem_of_getElem? (i := 1268) (by decide +kernel)⟩
theorem lw_p56 : lw_okq (⟨"BootSaleModel", "bestAsked", "(I)I"⟩, 41) := ⟨⟨by decide +kernel, by decide +kernel⟩, List.mem_of_getElem? (i := 855) (by decide +kernel), List.mem_of_getElem? (i := 1279) (by decide +kernel), List.mem_of_getElem? (i := 1280) (by decide +kernel)⟩
theorem lw_p57 : lw_okq (⟨"BootSaleModel", "markAll", "()V"⟩, 41) := ⟨⟨by decide +kernel, by decide +kernel⟩, List.mem_of_getElem? (i := 855) (by decide +kernel), List.mem_of_getElem? (i := 1296) (by decide +kernel), List.mem_of_getElem? (i := 1297) (by decide +kernel)⟩
theorem lw_p58 : lw_okq (⟨"BootSaleModel", "couldHave", "(II)Z"⟩, 41) := ⟨⟨by decide +kernel, by decide +kernel⟩, List.mem_of_getElem? (i := 855) (by decide +kernel), List.mem_of_getElem? (i := 1304) (by decide +kernel), List.mem_of_getElem? (i := 1305) (by decide +kernel)⟩
theorem lw_p59 : lw_okq (⟨"BootSaleModel", "gainByOffer", "(III)I"⟩, 41) := ⟨⟨by decide +kernel, by decide +kernel⟩, List.mem_of_getElem? (i := 855) (by decide +kernel), List.mem_of_getElem? (i := 1308) (by decide +kernel), List.mem_of_getElem? (i := 1309) (by decide +kernel)⟩
theorem lw_p60 : lw_okq (⟨"BootSaleModel", "worthOf", "(I)I"⟩, 41) := ⟨⟨by decide +kernel, by decide +kernel⟩, List.mem_of_getElem? (i := 855) (by decide +kernel), List.mem_of_getElem? (i := 1332) (by decide +kernel), List.mem_of_getElem? (i := 1333) (by decide +kernel)⟩
theorem lw_p61 : lw_okq (⟨"BootSaleModel", "changeThings", "(II)V"⟩, 41) := ⟨⟨by decide +kernel, by decide +kernel⟩, List.mem_of_getElem? (i := 855) (by decide +kernel), List.mem_of_getElem? (i := 1340) (by decide +kernel), List.mem_of_getElem? (i := 1341) (by decide +kernel)⟩
theorem lw_p62 : lw_okq (⟨"BootSaleModel", "noMarks", "(I)I"⟩, 41) := ⟨⟨by decide +kernel, by decide +kernel⟩, List.mem_of_getElem? (i := 855) (by decide +kernel), List.mem_of_getElem? (i := 1360) (by decide +kernel), List.mem_of_getElem? (i := 1361) (by decide +kernel)⟩
theorem lw_p63 : lw_okq (⟨"BootSaleModel", "wrongMark", "(I)I"⟩, 41) := ⟨⟨by decide +kernel, by decide +kernel⟩, List.mem_of_getElem? (i := 855) (by decide +kernel), List.mem_of_getElem? (i := 1364) (by decide +kernel), List.mem_of_getElem? (i := 1365) (by decide +kernel)⟩
def lw_privs_4 : List (MethodName × Nat) := [(⟨"BootSaleModel", "startMorning", "()V"⟩, 41), (⟨"BootSaleModel", "findOn", "(I)I"⟩, 41), (⟨"BootSaleModel", "goesBy", "(I)V"⟩, 41), (⟨"BootSaleModel", "choice", "(II)I"⟩, 41), (⟨"BootSaleModel", "payOf", "(III)I"⟩, 41), (⟨"BootSaleModel", "homeNow", "()I"⟩, 41), (⟨"BootSaleModel", "gainNow", "()I"⟩, 41), (⟨"BootSaleModel", "bestOf", "(III)I"⟩, 41), (⟨"BootSaleModel", "bestAsked", "(I)I"⟩, 41), (⟨"BootSaleModel", "markAll", "()V"⟩, 41), (⟨"BootSaleModel", "couldHave", "(II)Z"⟩, 41), (⟨"BootSaleModel", "gainByOffer", "(III)I"⟩, 41), (⟨"BootSaleModel", "worthOf", "(I)I"⟩, 41), (⟨"BootSaleModel", "changeThings", "(II)V"⟩, 41), (⟨"BootSaleModel", "noMarks", "(I)I"⟩, 41), (⟨"BootSaleModel", "wrongMark", "(I)I"⟩, 41)]
theorem lw_r4 : ∀ q ∈ lw_privs_4, lw_okq q := List.forall_mem_cons.mpr ⟨lw_p48, List.forall_mem_cons.mpr ⟨lw_p49, List.forall_mem_cons.mpr ⟨lw_p50, List.forall_mem_cons.mpr ⟨lw_p51, List.forall_mem_cons.mpr ⟨lw_p52, List.forall_mem_cons.mpr ⟨lw_p53, List.forall_mem_cons.mpr ⟨lw_p54, List.forall_mem_cons.mpr ⟨lw_p55, List.forall_mem_cons.mpr ⟨lw_p56, List.forall_mem_cons.mpr ⟨lw_p57, List.forall_mem_cons.mpr ⟨lw_p58, List.forall_mem_cons.mpr ⟨lw_p59, List.forall_mem_cons.mpr ⟨lw_p60, List.forall_mem_cons.mpr ⟨lw_p61, List.forall_mem_cons.mpr ⟨lw_p62, List.forall_mem_cons.mpr ⟨lw_p63, fun _ h => absurd h List.not_mem_nil⟩⟩⟩⟩⟩⟩⟩⟩⟩⟩⟩⟩⟩⟩⟩⟩
theorem lw_p64 : lw_okq (⟨"BootSaleModel", "setMarks", "(ILBootSaleModel;)V"⟩, 41) := ⟨⟨by decide +kernel, by decide +kernel⟩, List.mem_of_getElem? (i := 855) (by decide +kernel), List.mem_of_getElem? (i := 1372) (by decide +kernel), List.mem_of_getElem? (i := 1373) (by decide +kernel)⟩
theorem lw_p65 : lw_okq (⟨"BootSaleModel", "below", "(I)I"⟩, 41) := ⟨⟨by decide +kernel, by decide +kernel⟩, List.mem_of_getElem? (i := 855) (by decide +kernel), List.mem_of_getElem? (i := 1389) (by decide +kernel), List.mem_of_getElem? (i := 1390) (by decide +kernel)⟩
def lw_privs_5 : List (MethodName × Nat) := [(⟨"BootSaleModel", "setMarks", "(ILBootSaleModel;)V"⟩, 41), (⟨"BootSaleModel", "below", "(I)I"⟩, 41)]
theorem lw_r5 : ∀ q ∈ lw_privs_5, lw_okq q := List.forall_mem_cons.mpr ⟨lw_p64, List.forall_mem_cons.mpr ⟨lw_p65, fun _ h => absurd h List.not_mem_nil⟩⟩
def lw_privs : List (MethodName × Nat) := lw_privs_1 ++ (lw_privs_2 ++ (lw_privs_3 ++ (lw_privs_4 ++ (lw_privs_5))))
def lw_tbl : List Cond := k2_sels lw_privs ++ tables_1
theorem lw_privs_ok : ∀ q ∈ lw_privs, lw_okq q := by
  show ∀ q ∈ lw_privs_1 ++ (lw_privs_2 ++ (lw_privs_3 ++ (lw_privs_4 ++ (lw_privs_5)))), lw_okq q
  exact List.forall_mem_append.mpr ⟨lw_r1, List.forall_mem_append.mpr ⟨lw_r2, List.forall_mem_append.mpr ⟨lw_r3, List.forall_mem_append.mpr ⟨lw_r4, lw_r5⟩⟩⟩⟩
-- ===== end of PART A; then your names; then what follows =====
theorem vr_outer (c : ClassId) (N h0 : Nat) : ∀ i : Nat, Jvm.Free.Multi.outerC c N h0 i = arrV c N (fun j => va_rf (if j < i then some (h0 + 1 + j) else none))
  | 0 => by
    show ({ cls := c, slots := Array.replicate N .null, vm := .none } : Cell) = _
    rw [arrV_new]
    refine congrArg (arrV c N) (funext fun j => ?_)
    simp [va_rf]
  | i + 1 => by
    show (Jvm.Free.Multi.outerC c N h0 i).setSlot i (.ref (h0 + 1 + i)) = _
    rw [vr_outer c N h0 i, arrV_store]
    refine congrArg (arrV c N) (funext fun j => ?_)
    by_cases e : j = i
    · subst e
      simp [updV, va_rf]
    · by_cases h : j < i
      · simp [updV, e, h, Nat.lt_succ_of_lt h]
      · simp [updV, e, h, show ¬ j < i + 1 by omega]
def RX0 : String := "BootSale$Morning"
def TX0 : u_T := fun k => match k with
  | 0 => ("BootSale$Morning", "soldTo", "[I", true)
  | 1 => ("BootSale$Morning", "boughtBy", "[I", true)
  | 2 => ("BootSale$Morning", "onAt", "[I", true)
  | 3 => ("BootSale$Morning", "takenIn", "[I", true)
  | 4 => ("BootSale$Morning", "taken", "I", false)
  | 5 => ("BootSale$Morning", "left", "I", false)
  | 6 => ("BootSale$Morning", "home", "I", false)
  | 7 => ("BootSale$Morning", "gain", "I", false)
  | 8 => ("BootSale$Morning", "stall", "LBootSale$Stall;", false)
  | 9 => ("BootSale$Morning", "pay", "[I", true)
  | 10 => ("BootSale$Morning", "prices", "[I", true)
  | 11 => ("BootSale$Morning", "drawing", "I", false)
  | 12 => ("BootSale$Morning", "came", "I", false)
  | 13 => ("BootSale$Morning", "sold", "I", false)
  | 14 => ("BootSale$Morning", "on", "I", false)
  | 15 => ("BootSale$Morning", "givenBy", "I", false)
  | _ => ("BootSale$Morning", "given", "I", false)
def tyX0 : Nat → FieldType := fun k => match k with
  | 0 => .array .int
  | 1 => .array .int
  | 2 => .array .int
  | 3 => .array .int
  | 4 => .int
  | 5 => .int
  | 6 => .int
  | 7 => .int
  | 8 => .object "BootSale$Stall"
  | 9 => .array .int
  | 10 => .array .int
  | 11 => .int
  | 12 => .int
  | 13 => .int
  | 14 => .int
  | 15 => .int
  | _ => .int
theorem nmX0 : ∀ a, a < 17 → ∀ b, b < 17 → a ≠ b → (TX0 a).2.1 ≠ (TX0 b).2.1 := by decide +kernel
theorem tyX0_ok : ∀ k, k < 17 → parseFieldDescriptor (TX0 k).2.2.1 = some (tyX0 k) := by decide +kernel
abbrev cX0_init : ByteArray := prog_2_method_1_code
def yX0_init : MethodName := ⟨RX0, "<init>", "()V"⟩
abbrev cX0_prepare : ByteArray := prog_2_method_2_code
def yX0_prepare : MethodName := ⟨RX0, "prepare", "(LBootSale$Stall;)V"⟩
abbrev cX0_payPlace : ByteArray := prog_2_method_3_code
def yX0_payPlace : MethodName := ⟨RX0, "payPlace", "(III)I"⟩
abbrev cX0_capPay : ByteArray := prog_2_method_4_code
def yX0_capPay : MethodName := ⟨RX0, "capPay", "(II)V"⟩
abbrev cX0_give : ByteArray := prog_2_method_5_code
def yX0_give : MethodName := ⟨RX0, "give", "(II)V"⟩
abbrev cX0_hasCome : ByteArray := prog_2_method_6_code
def yX0_hasCome : MethodName := ⟨RX0, "hasCome", "(I)Z"⟩
abbrev cX0_isSoldBeforeNoon : ByteArray := prog_2_method_7_code
def yX0_isSoldBeforeNoon : MethodName := ⟨RX0, "isSoldBeforeNoon", "(I)Z"⟩
abbrev cX0_goBy : ByteArray := prog_2_method_8_code
def yX0_goBy : MethodName := ⟨RX0, "goBy", "()V"⟩
abbrev cX0_open : ByteArray := prog_2_method_9_code
def yX0_open : MethodName := ⟨RX0, "open", "()V"⟩
abbrev cX0_nextHour : ByteArray := prog_2_method_10_code
def yX0_nextHour : MethodName := ⟨RX0, "nextHour", "(I)V"⟩
abbrev cX0_serve : ByteArray := prog_2_method_11_code
def yX0_serve : MethodName := ⟨RX0, "serve", "(I[IZ)Z"⟩
abbrev cX0_choice : ByteArray := prog_2_method_12_code
def yX0_choice : MethodName := ⟨RX0, "choice", "([I)I"⟩
abbrev cX0_close : ByteArray := prog_2_method_13_code
def yX0_close : MethodName := ⟨RX0, "close", "()V"⟩
def RX1 : String := "BootSale$Shelf"
def TX1 : u_T := fun k => match k with
  | 0 => ("BootSale$Shelf", "holds", "I", false)
  | 1 => ("BootSale$Shelf", "size", "I", false)
  | _ => ("BootSale$Shelf", "elements", "[J", true)
def tyX1 : Nat → FieldType := fun k => match k with
  | 0 => .int
  | 1 => .int
  | _ => .array .long
theorem nmX1 : ∀ a, a < 3 → ∀ b, b < 3 → a ≠ b → (TX1 a).2.1 ≠ (TX1 b).2.1 := by decide +kernel
theorem tyX1_ok : ∀ k, k < 3 → parseFieldDescriptor (TX1 k).2.2.1 = some (tyX1 k) := by decide +kernel
abbrev cX1_init : ByteArray := prog_3_method_1_code
def yX1_init : MethodName := ⟨RX1, "<init>", "()V"⟩
abbrev cX1_isEmpty : ByteArray := prog_3_method_2_code
def yX1_isEmpty : MethodName := ⟨RX1, "isEmpty", "()Z"⟩
abbrev cX1_isRow : ByteArray := prog_3_method_3_code
def yX1_isRow : MethodName := ⟨RX1, "isRow", "()Z"⟩
abbrev cX1_isThing : ByteArray := prog_3_method_4_code
def yX1_isThing : MethodName := ⟨RX1, "isThing", "()Z"⟩
abbrev cX1_takeRow : ByteArray := prog_3_method_5_code
def yX1_takeRow : MethodName := ⟨RX1, "takeRow", "(II)V"⟩
abbrev cX1_lowestBits : ByteArray := prog_3_method_6_code
def yX1_lowestBits : MethodName := ⟨RX1, "lowestBits", "(J)J"⟩
def RX2 : String := "BootSale$Stall"
def TX2 : u_T := fun k => match k with
  | 0 => ("BootSale$Stall", "things", "[[I", true)
  | 1 => ("BootSale$Stall", "thingCount", "I", false)
  | 2 => ("BootSale$Stall", "buyers", "[[I", true)
  | 3 => ("BootSale$Stall", "buyerCount", "I", false)
  | 4 => ("BootSale$Stall", "settings", "[I", true)
  | 5 => ("BootSale$Stall", "coin", "I", false)
  | 6 => ("BootSale$Stall", "mornings", "I", false)
  | _ => ("BootSale$Stall", "seed", "I", false)
def tyX2 : Nat → FieldType := fun k => match k with
  | 0 => .array (.array .int)
  | 1 => .int
  | 2 => .array (.array .int)
  | 3 => .int
  | 4 => .array .int
  | 5 => .int
  | 6 => .int
  | _ => .int
theorem nmX2 : ∀ a, a < 8 → ∀ b, b < 8 → a ≠ b → (TX2 a).2.1 ≠ (TX2 b).2.1 := by decide +kernel
theorem tyX2_ok : ∀ k, k < 8 → parseFieldDescriptor (TX2 k).2.2.1 = some (tyX2 k) := by decide +kernel
abbrev cX2_init : ByteArray := prog_4_method_1_code
def yX2_init : MethodName := ⟨RX2, "<init>", "()V"⟩
abbrev cX2_become : ByteArray := prog_4_method_2_code
def yX2_become : MethodName := ⟨RX2, "become", "(LBootSale$Stall;)V"⟩
abbrev cX2_addThing : ByteArray := prog_4_method_3_code
def yX2_addThing : MethodName := ⟨RX2, "addThing", "(IIIII)I"⟩
abbrev cX2_addBuyer : ByteArray := prog_4_method_4_code
def yX2_addBuyer : MethodName := ⟨RX2, "addBuyer", "(III)I"⟩
abbrev cX2_moveThing : ByteArray := prog_4_method_5_code
def yX2_moveThing : MethodName := ⟨RX2, "moveThing", "(II)V"⟩
abbrev cX2_removeThing : ByteArray := prog_4_method_6_code
def yX2_removeThing : MethodName := ⟨RX2, "removeThing", "(I)V"⟩
abbrev cX2_swapThings : ByteArray := prog_4_method_7_code
def yX2_swapThings : MethodName := ⟨RX2, "swapThings", "(II)V"⟩
abbrev cX2_sendHomeFrom : ByteArray := prog_4_method_8_code
def yX2_sendHomeFrom : MethodName := ⟨RX2, "sendHomeFrom", "(I)V"⟩
abbrev cX2_putMarks : ByteArray := prog_4_method_9_code
def yX2_putMarks : MethodName := ⟨RX2, "putMarks", "([J)V"⟩
abbrev cX2_priceOf : ByteArray := prog_4_method_10_code
def yX2_priceOf : MethodName := ⟨RX2, "priceOf", "(II)I"⟩
abbrev cX2_layOut : ByteArray := prog_4_method_11_code
def yX2_layOut : MethodName := ⟨RX2, "layOut", "(II)I"⟩
abbrev cX2_drawBelow : ByteArray := prog_4_method_12_code
def yX2_drawBelow : MethodName := ⟨RX2, "drawBelow", "(I)I"⟩
def RX3 : String := "BootSale$Tape"
def TX3 : u_T := fun k => match k with
  | 0 => ("BootSale$Tape", "bytes", "[I", true)
  | 1 => ("BootSale$Tape", "size", "I", false)
  | 2 => ("BootSale$Tape", "token", "I", false)
  | 3 => ("BootSale$Tape", "place", "I", false)
  | 4 => ("BootSale$Tape", "behind", "I", false)
  | 5 => ("BootSale$Tape", "value", "I", false)
  | _ => ("BootSale$Tape", "numbers", "[I", true)
def tyX3 : Nat → FieldType := fun k => match k with
  | 0 => .array .int
  | 1 => .int
  | 2 => .int
  | 3 => .int
  | 4 => .int
  | 5 => .int
  | _ => .array .int
theorem nmX3 : ∀ a, a < 7 → ∀ b, b < 7 → a ≠ b → (TX3 a).2.1 ≠ (TX3 b).2.1 := by decide +kernel
theorem tyX3_ok : ∀ k, k < 7 → parseFieldDescriptor (TX3 k).2.2.1 = some (tyX3 k) := by decide +kernel
abbrev cX3_init : ByteArray := prog_5_method_1_code
def yX3_init : MethodName := ⟨RX3, "<init>", "()V"⟩
abbrev cX3_readSale : ByteArray := prog_5_method_2_code
def yX3_readSale : MethodName := ⟨RX3, "readSale", "(LBootSale$Stall;)I"⟩
abbrev cX3_readStatement : ByteArray := prog_5_method_3_code
def yX3_readStatement : MethodName := ⟨RX3, "readStatement", "(LBootSale$Stall;)Z"⟩
abbrev cX3_readThing : ByteArray := prog_5_method_4_code
def yX3_readThing : MethodName := ⟨RX3, "readThing", "(LBootSale$Stall;)Z"⟩
abbrev cX3_readBuyer : ByteArray := prog_5_method_5_code
def yX3_readBuyer : MethodName := ⟨RX3, "readBuyer", "(LBootSale$Stall;)Z"⟩
abbrev cX3_readCell : ByteArray := prog_5_method_6_code
def yX3_readCell : MethodName := ⟨RX3, "readCell", "(LBootSale$Stall;I)Z"⟩
abbrev cX3_readSetting : ByteArray := prog_5_method_7_code
def yX3_readSetting : MethodName := ⟨RX3, "readSetting", "(LBootSale$Stall;I)Z"⟩
abbrev cX3_readNumber : ByteArray := prog_5_method_8_code
def yX3_readNumber : MethodName := ⟨RX3, "readNumber", "(II)Z"⟩
abbrev cX3_isWord : ByteArray := prog_5_method_9_code
def yX3_isWord : MethodName := ⟨RX3, "isWord", "(Ljava/lang/String;)Z"⟩
abbrev cX3_next : ByteArray := prog_5_method_10_code
def yX3_next : MethodName := ⟨RX3, "next", "()V"⟩
def RX4 : String := "BootSale$Trials"
def TX4 : u_T := fun k => match k with
  | 0 => ("BootSale$Trials", "stall", "LBootSale$Stall;", true)
  | _ => ("BootSale$Trials", "morning", "LBootSale$Morning;", true)
def tyX4 : Nat → FieldType := fun k => match k with
  | 0 => .object "BootSale$Stall"
  | _ => .object "BootSale$Morning"
theorem nmX4 : ∀ a, a < 2 → ∀ b, b < 2 → a ≠ b → (TX4 a).2.1 ≠ (TX4 b).2.1 := by decide +kernel
theorem tyX4_ok : ∀ k, k < 2 → parseFieldDescriptor (TX4 k).2.2.1 = some (tyX4 k) := by decide +kernel
abbrev cX4_init : ByteArray := prog_6_method_1_code
def yX4_init : MethodName := ⟨RX4, "<init>", "()V"⟩
abbrev cX4_start : ByteArray := prog_6_method_2_code
def yX4_start : MethodName := ⟨RX4, "start", "(LBootSale$Stall;)V"⟩
abbrev cX4_gainNow : ByteArray := prog_6_method_3_code
def yX4_gainNow : MethodName := ⟨RX4, "gainNow", "()I"⟩
abbrev cX4_gainOf : ByteArray := prog_6_method_4_code
def yX4_gainOf : MethodName := ⟨RX4, "gainOf", "(LBootSale$Stall;)I"⟩
abbrev cX4_gainAnew : ByteArray := prog_6_method_5_code
def yX4_gainAnew : MethodName := ⟨RX4, "gainAnew", "()I"⟩
abbrev cX4_gainGiven : ByteArray := prog_6_method_6_code
def yX4_gainGiven : MethodName := ⟨RX4, "gainGiven", "(II)I"⟩
abbrev cX4_bestValue : ByteArray := prog_6_method_7_code
def yX4_bestValue : MethodName := ⟨RX4, "bestValue", "([IIII)I"⟩
abbrev cX4_bestSetting : ByteArray := prog_6_method_8_code
def yX4_bestSetting : MethodName := ⟨RX4, "bestSetting", "(I)I"⟩
abbrev cX4_bestFromOf : ByteArray := prog_6_method_9_code
def yX4_bestFromOf : MethodName := ⟨RX4, "bestFromOf", "(I)I"⟩
abbrev cX4_bestMarkOf : ByteArray := prog_6_method_10_code
def yX4_bestMarkOf : MethodName := ⟨RX4, "bestMarkOf", "(I)I"⟩
abbrev cX4_bestSet : ByteArray := prog_6_method_11_code
def yX4_bestSet : MethodName := ⟨RX4, "bestSet", "()I"⟩
abbrev cX4_markAll : ByteArray := prog_6_method_12_code
def yX4_markAll : MethodName := ⟨RX4, "markAll", "()V"⟩
def RX5 : String := "BootSale"
def TX5 : u_T := fun k => match k with
  | 0 => ("BootSale", "stall", "LBootSale$Stall;", true)
  | 1 => ("BootSale", "kept", "LBootSale$Stall;", true)
  | 2 => ("BootSale", "wasKept", "Z", false)
  | 3 => ("BootSale", "trials", "LBootSale$Trials;", true)
  | 4 => ("BootSale", "tape", "LBootSale$Tape;", true)
  | 5 => ("BootSale", "shelves", "[LBootSale$Shelf;", true)
  | _ => ("BootSale", "refusals", "[I", true)
def tyX5 : Nat → FieldType := fun k => match k with
  | 0 => .object "BootSale$Stall"
  | 1 => .object "BootSale$Stall"
  | 2 => .boolean
  | 3 => .object "BootSale$Trials"
  | 4 => .object "BootSale$Tape"
  | 5 => .array (.object "BootSale$Shelf")
  | _ => .array .int
theorem nmX5 : ∀ a, a < 7 → ∀ b, b < 7 → a ≠ b → (TX5 a).2.1 ≠ (TX5 b).2.1 := by decide +kernel
theorem tyX5_ok : ∀ k, k < 7 → parseFieldDescriptor (TX5 k).2.2.1 = some (tyX5 k) := by decide +kernel
abbrev cX5_init : ByteArray := prog_1_method_1_code
def yX5_init : MethodName := ⟨RX5, "<init>", "()V"⟩
abbrev cX5_row : ByteArray := prog_1_method_2_code
def yX5_row : MethodName := ⟨RX5, "row", "(III)I"⟩
abbrev cX5_set : ByteArray := prog_1_method_3_code
def yX5_set : MethodName := ⟨RX5, "set", "(IIJ)I"⟩
abbrev cX5_copy : ByteArray := prog_1_method_4_code
def yX5_copy : MethodName := ⟨RX5, "copy", "(IIIII)I"⟩
abbrev cX5_element : ByteArray := prog_1_method_5_code
def yX5_element : MethodName := ⟨RX5, "element", "(II)J"⟩
abbrev cX5_holds : ByteArray := prog_1_method_6_code
def yX5_holds : MethodName := ⟨RX5, "holds", "(I)I"⟩
abbrev cX5_show : ByteArray := prog_1_method_7_code
def yX5_show : MethodName := ⟨RX5, "show", "(II)I"⟩
abbrev cX5_says : ByteArray := prog_1_method_8_code
def yX5_says : MethodName := ⟨RX5, "says", "(II)I"⟩
abbrev cX5_thing : ByteArray := prog_1_method_9_code
def yX5_thing : MethodName := ⟨RX5, "thing", "(IIIII)I"⟩
abbrev cX5_buyer : ByteArray := prog_1_method_10_code
def yX5_buyer : MethodName := ⟨RX5, "buyer", "(III)I"⟩
abbrev cX5_buyers : ByteArray := prog_1_method_11_code
def yX5_buyers : MethodName := ⟨RX5, "buyers", "(II)I"⟩
abbrev cX5_change : ByteArray := prog_1_method_12_code
def yX5_change : MethodName := ⟨RX5, "change", "(III)I"⟩
abbrev cX5_ask : ByteArray := prog_1_method_13_code
def yX5_ask : MethodName := ⟨RX5, "ask", "(II)I"⟩
abbrev cX5_feed : ByteArray := prog_1_method_14_code
def yX5_feed : MethodName := ⟨RX5, "feed", "(I)I"⟩
abbrev cX5_wipe : ByteArray := prog_1_method_15_code
def yX5_wipe : MethodName := ⟨RX5, "wipe", "()I"⟩
abbrev cX5_sale : ByteArray := prog_1_method_16_code
def yX5_sale : MethodName := ⟨RX5, "sale", "()I"⟩
abbrev cX5_thingOf : ByteArray := prog_1_method_17_code
def yX5_thingOf : MethodName := ⟨RX5, "thingOf", "(II)I"⟩
abbrev cX5_buyerOf : ByteArray := prog_1_method_18_code
def yX5_buyerOf : MethodName := ⟨RX5, "buyerOf", "(II)I"⟩
abbrev cX5_price : ByteArray := prog_1_method_19_code
def yX5_price : MethodName := ⟨RX5, "price", "(II)I"⟩
abbrev cX5_on : ByteArray := prog_1_method_20_code
def yX5_on : MethodName := ⟨RX5, "on", "(I)I"⟩
abbrev cX5_pays : ByteArray := prog_1_method_21_code
def yX5_pays : MethodName := ⟨RX5, "pays", "(III)I"⟩
abbrev cX5_buys : ByteArray := prog_1_method_22_code
def yX5_buys : MethodName := ⟨RX5, "buys", "(I)I"⟩
abbrev cX5_comes : ByteArray := prog_1_method_23_code
def yX5_comes : MethodName := ⟨RX5, "comes", "(I)I"⟩
abbrev cX5_who : ByteArray := prog_1_method_24_code
def yX5_who : MethodName := ⟨RX5, "who", "(I)I"⟩
abbrev cX5_taken : ByteArray := prog_1_method_25_code
def yX5_taken : MethodName := ⟨RX5, "taken", "()I"⟩
abbrev cX5_left : ByteArray := prog_1_method_26_code
def yX5_left : MethodName := ⟨RX5, "left", "()I"⟩
abbrev cX5_home : ByteArray := prog_1_method_27_code
def yX5_home : MethodName := ⟨RX5, "home", "()I"⟩
abbrev cX5_gain : ByteArray := prog_1_method_28_code
def yX5_gain : MethodName := ⟨RX5, "gain", "()I"⟩
abbrev cX5_bestMark : ByteArray := prog_1_method_29_code
def yX5_bestMark : MethodName := ⟨RX5, "bestMark", "(I)I"⟩
abbrev cX5_bestFall : ByteArray := prog_1_method_30_code
def yX5_bestFall : MethodName := ⟨RX5, "bestFall", "()I"⟩
abbrev cX5_bestFrom : ByteArray := prog_1_method_31_code
def yX5_bestFrom : MethodName := ⟨RX5, "bestFrom", "(I)I"⟩
abbrev cX5_table : ByteArray := prog_1_method_32_code
def yX5_table : MethodName := ⟨RX5, "table", "()I"⟩
abbrev cX5_feet : ByteArray := prog_1_method_33_code
def yX5_feet : MethodName := ⟨RX5, "feet", "()I"⟩
abbrev cX5_marked : ByteArray := prog_1_method_34_code
def yX5_marked : MethodName := ⟨RX5, "marked", "(I)I"⟩
abbrev cX5_offer : ByteArray := prog_1_method_35_code
def yX5_offer : MethodName := ⟨RX5, "offer", "(III)I"⟩
abbrev cX5_least : ByteArray := prog_1_method_36_code
def yX5_least : MethodName := ⟨RX5, "least", "(II)I"⟩
abbrev cX5_rain : ByteArray := prog_1_method_37_code
def yX5_rain : MethodName := ⟨RX5, "rain", "(I)I"⟩
abbrev cX5_neighbour : ByteArray := prog_1_method_38_code
def yX5_neighbour : MethodName := ⟨RX5, "neighbour", "(III)I"⟩
abbrev cX5_quick : ByteArray := prog_1_method_39_code
def yX5_quick : MethodName := ⟨RX5, "quick", "(III)I"⟩
abbrev cX5_worthy : ByteArray := prog_1_method_40_code
def yX5_worthy : MethodName := ⟨RX5, "worthy", "(I)I"⟩
abbrev cX5_swap : ByteArray := prog_1_method_41_code
def yX5_swap : MethodName := ⟨RX5, "swap", "(II)I"⟩
abbrev cX5_ahead : ByteArray := prog_1_method_42_code
def yX5_ahead : MethodName := ⟨RX5, "ahead", "(I)I"⟩
abbrev cX5_dearest : ByteArray := prog_1_method_43_code
def yX5_dearest : MethodName := ⟨RX5, "dearest", "()I"⟩
abbrev cX5_hour : ByteArray := prog_1_method_44_code
def yX5_hour : MethodName := ⟨RX5, "hour", "()I"⟩
abbrev cX5_judge : ByteArray := prog_1_method_45_code
def yX5_judge : MethodName := ⟨RX5, "judge", "(I)I"⟩
abbrev cX5_told : ByteArray := prog_1_method_46_code
def yX5_told : MethodName := ⟨RX5, "told", "(I)I"⟩
abbrev cX5_marks : ByteArray := prog_1_method_47_code
def yX5_marks : MethodName := ⟨RX5, "marks", "(I)I"⟩
abbrev cX5_morning : ByteArray := prog_1_method_48_code
def yX5_morning : MethodName := ⟨RX5, "morning", "()I"⟩
abbrev cX5_draw : ByteArray := prog_1_method_49_code
def yX5_draw : MethodName := ⟨RX5, "draw", "(I)I"⟩
abbrev cX5_sum : ByteArray := prog_1_method_50_code
def yX5_sum : MethodName := ⟨RX5, "sum", "(I)I"⟩
abbrev cX5_clear : ByteArray := prog_1_method_51_code
def yX5_clear : MethodName := ⟨RX5, "clear", "()I"⟩
abbrev cX5_seed : ByteArray := prog_1_method_52_code
def yX5_seed : MethodName := ⟨RX5, "seed", "(I)I"⟩
abbrev cX5_image : ByteArray := prog_1_method_53_code
def yX5_image : MethodName := ⟨RX5, "image", "()I"⟩
abbrev cX5_back : ByteArray := prog_1_method_54_code
def yX5_back : MethodName := ⟨RX5, "back", "()I"⟩
abbrev cX5_status : ByteArray := prog_1_method_55_code
def yX5_status : MethodName := ⟨RX5, "status", "(I)I"⟩
abbrev cX5_refuse : ByteArray := prog_1_method_56_code
def yX5_refuse : MethodName := ⟨RX5, "refuse", "(I)I"⟩
abbrev cX5_refuseFar : ByteArray := prog_1_method_57_code
def yX5_refuseFar : MethodName := ⟨RX5, "refuseFar", "(I)I"⟩
abbrev cX5_isShelf : ByteArray := prog_1_method_58_code
def yX5_isShelf : MethodName := ⟨RX5, "isShelf", "(I)Z"⟩
abbrev cX5_isThing : ByteArray := prog_1_method_59_code
def yX5_isThing : MethodName := ⟨RX5, "isThing", "(I)Z"⟩
abbrev cX5_isPlace : ByteArray := prog_1_method_60_code
def yX5_isPlace : MethodName := ⟨RX5, "isPlace", "(I)Z"⟩
abbrev cX5_rowRefusal : ByteArray := prog_1_method_61_code
def yX5_rowRefusal : MethodName := ⟨RX5, "rowRefusal", "(I)I"⟩
abbrev cX5_marksRefusal : ByteArray := prog_1_method_62_code
def yX5_marksRefusal : MethodName := ⟨RX5, "marksRefusal", "(I)I"⟩
abbrev cX5_goodMarksRefusal : ByteArray := prog_1_method_63_code
def yX5_goodMarksRefusal : MethodName := ⟨RX5, "goodMarksRefusal", "(I)I"⟩
abbrev cX5_firstWrongMark : ByteArray := prog_1_method_64_code
def yX5_firstWrongMark : MethodName := ⟨RX5, "firstWrongMark", "(LBootSale$Shelf;)I"⟩
abbrev cX5_offerRefusal : ByteArray := prog_1_method_65_code
def yX5_offerRefusal : MethodName := ⟨RX5, "offerRefusal", "(II)I"⟩
abbrev cX5_leastWorthTaking : ByteArray := prog_1_method_66_code
def yX5_leastWorthTaking : MethodName := ⟨RX5, "leastWorthTaking", "(II)I"⟩
abbrev cX5_worthOnTable : ByteArray := prog_1_method_67_code
def yX5_worthOnTable : MethodName := ⟨RX5, "worthOnTable", "(I)I"⟩
abbrev cX5_asItIs : ByteArray := prog_1_method_68_code
def yX5_asItIs : MethodName := ⟨RX5, "asItIs", "()LBootSale$Morning;"⟩
abbrev cX5_takeFromShelves : ByteArray := prog_1_method_69_code
def yX5_takeFromShelves : MethodName := ⟨RX5, "takeFromShelves", "(I)V"⟩
abbrev cX5_fullShelves : ByteArray := prog_1_method_70_code
def yX5_fullShelves : MethodName := ⟨RX5, "fullShelves", "()I"⟩
abbrev cX5_isIn : ByteArray := prog_1_method_71_code
def yX5_isIn : MethodName := ⟨RX5, "isIn", "(III)Z"⟩
abbrev cX5_isCell : ByteArray := prog_1_method_72_code
def yX5_isCell : MethodName := ⟨RX5, "isCell", "(II)Z"⟩
abbrev cX5_isBuyerCell : ByteArray := prog_1_method_73_code
def yX5_isBuyerCell : MethodName := ⟨RX5, "isBuyerCell", "(II)Z"⟩
abbrev cX5_areBuyers : ByteArray := prog_1_method_74_code
def yX5_areBuyers : MethodName := ⟨RX5, "areBuyers", "([JI)Z"⟩
abbrev cX5_isBit : ByteArray := prog_1_method_75_code
def yX5_isBit : MethodName := ⟨RX5, "isBit", "(II)Z"⟩
abbrev cX5_columnSum : ByteArray := prog_1_method_76_code
def yX5_columnSum : MethodName := ⟨RX5, "columnSum", "([[III)I"⟩
abbrev cX5_isUnder : ByteArray := prog_1_method_77_code
def yX5_isUnder : MethodName := ⟨RX5, "isUnder", "(II)Z"⟩
abbrev cX5_drawnAlone : ByteArray := prog_1_method_78_code
def yX5_drawnAlone : MethodName := ⟨RX5, "drawnAlone", "(I)I"⟩
abbrev cX5_saysAs : ByteArray := prog_1_method_79_code
def yX5_saysAs : MethodName := ⟨RX5, "saysAs", "(I[I)I"⟩
abbrev cX5_payFor : ByteArray := prog_1_method_80_code
def yX5_payFor : MethodName := ⟨RX5, "payFor", "(IIIII)I"⟩
def RX6 : String := "BootSaleModel"
def TX6 : u_T := fun k => match k with
  | 0 => ("BootSaleModel", "shelf", "[I", true)
  | 1 => ("BootSaleModel", "rowSort", "[I", true)
  | 2 => ("BootSaleModel", "rowSize", "[I", true)
  | 3 => ("BootSaleModel", "rows", "[[J", true)
  | 4 => ("BootSaleModel", "moved", "[J", true)
  | 5 => ("BootSaleModel", "shown", "[I", true)
  | 6 => ("BootSaleModel", "tape", "[I", true)
  | 7 => ("BootSaleModel", "tapeSize", "I", false)
  | 8 => ("BootSaleModel", "refused", "[I", true)
  | 9 => ("BootSaleModel", "things", "I", false)
  | 10 => ("BootSaleModel", "thing", "[[I", true)
  | 11 => ("BootSaleModel", "buyers", "I", false)
  | 12 => ("BootSaleModel", "buyer", "[[I", true)
  | 13 => ("BootSaleModel", "asked", "[I", true)
  | 14 => ("BootSaleModel", "coin", "I", false)
  | 15 => ("BootSaleModel", "mornings", "I", false)
  | 16 => ("BootSaleModel", "seed", "I", false)
  | 17 => ("BootSaleModel", "kept", "LBootSaleModel;", false)
  | 18 => ("BootSaleModel", "tried", "LBootSaleModel;", false)
  | 19 => ("BootSaleModel", "marking", "LBootSaleModel;", false)
  | 20 => ("BootSaleModel", "at", "I", false)
  | 21 => ("BootSaleModel", "token", "I", false)
  | 22 => ("BootSaleModel", "from", "I", false)
  | 23 => ("BootSaleModel", "figures", "I", false)
  | 24 => ("BootSaleModel", "fault", "I", false)
  | 25 => ("BootSaleModel", "told", "[I", true)
  | 26 => ("BootSaleModel", "statements", "I", false)
  | 27 => ("BootSaleModel", "sold", "[Z", true)
  | 28 => ("BootSaleModel", "isOn", "[Z", true)
  | 29 => ("BootSaleModel", "rainFrom", "I", false)
  | 30 => ("BootSaleModel", "alike", "I", false)
  | 31 => ("BootSaleModel", "alikeAt", "I", false)
  | 32 => ("BootSaleModel", "offeredBy", "I", false)
  | 33 => ("BootSaleModel", "offered", "I", false)
  | 34 => ("BootSaleModel", "offeredAt", "I", false)
  | 35 => ("BootSaleModel", "atHome", "I", false)
  | 36 => ("BootSaleModel", "came", "[Z", true)
  | 37 => ("BootSaleModel", "buys", "[I", true)
  | 38 => ("BootSaleModel", "paid", "[I", true)
  | 39 => ("BootSaleModel", "takenNow", "I", false)
  | _ => ("BootSaleModel", "sums", "[I", true)
def tyX6 : Nat → FieldType := fun k => match k with
  | 0 => .array .int
  | 1 => .array .int
  | 2 => .array .int
  | 3 => .array (.array .long)
  | 4 => .array .long
  | 5 => .array .int
  | 6 => .array .int
  | 7 => .int
  | 8 => .array .int
  | 9 => .int
  | 10 => .array (.array .int)
  | 11 => .int
  | 12 => .array (.array .int)
  | 13 => .array .int
  | 14 => .int
  | 15 => .int
  | 16 => .int
  | 17 => .object "BootSaleModel"
  | 18 => .object "BootSaleModel"
  | 19 => .object "BootSaleModel"
  | 20 => .int
  | 21 => .int
  | 22 => .int
  | 23 => .int
  | 24 => .int
  | 25 => .array .int
  | 26 => .int
  | 27 => .array .boolean
  | 28 => .array .boolean
  | 29 => .int
  | 30 => .int
  | 31 => .int
  | 32 => .int
  | 33 => .int
  | 34 => .int
  | 35 => .int
  | 36 => .array .boolean
  | 37 => .array .int
  | 38 => .array .int
  | 39 => .int
  | _ => .array .int
theorem nmX6 : ∀ a, a < 41 → ∀ b, b < 41 → a ≠ b → (TX6 a).2.1 ≠ (TX6 b).2.1 := by decide +kernel
theorem tyX6_ok : ∀ k, k < 41 → parseFieldDescriptor (TX6 k).2.2.1 = some (tyX6 k) := by decide +kernel
abbrev cX6_init : ByteArray := prog_8_method_1_code
def yX6_init : MethodName := ⟨RX6, "<init>", "()V"⟩
abbrev cX6_refuse : ByteArray := prog_8_method_2_code
def yX6_refuse : MethodName := ⟨RX6, "refuse", "(I)I"⟩
abbrev cX6_in : ByteArray := prog_8_method_3_code
def yX6_in : MethodName := ⟨RX6, "in", "(JJJ)Z"⟩
abbrev cX6_isThing : ByteArray := prog_8_method_4_code
def yX6_isThing : MethodName := ⟨RX6, "isThing", "(I)Z"⟩
abbrev cX6_isBuyer : ByteArray := prog_8_method_5_code
def yX6_isBuyer : MethodName := ⟨RX6, "isBuyer", "(I)Z"⟩
abbrev cX6_row : ByteArray := prog_8_method_6_code
def yX6_row : MethodName := ⟨RX6, "row", "(III)I"⟩
abbrev cX6_fit : ByteArray := prog_8_method_7_code
def yX6_fit : MethodName := ⟨RX6, "fit", "(IJ)J"⟩
abbrev cX6_noRow : ByteArray := prog_8_method_8_code
def yX6_noRow : MethodName := ⟨RX6, "noRow", "(I)I"⟩
abbrev cX6_set : ByteArray := prog_8_method_9_code
def yX6_set : MethodName := ⟨RX6, "set", "(IIJ)I"⟩
abbrev cX6_copy : ByteArray := prog_8_method_10_code
def yX6_copy : MethodName := ⟨RX6, "copy", "(IIIII)I"⟩
abbrev cX6_element : ByteArray := prog_8_method_11_code
def yX6_element : MethodName := ⟨RX6, "element", "(II)J"⟩
abbrev cX6_holds : ByteArray := prog_8_method_12_code
def yX6_holds : MethodName := ⟨RX6, "holds", "(I)I"⟩
abbrev cX6_show : ByteArray := prog_8_method_13_code
def yX6_show : MethodName := ⟨RX6, "show", "(II)I"⟩
abbrev cX6_isUnder : ByteArray := prog_8_method_14_code
def yX6_isUnder : MethodName := ⟨RX6, "isUnder", "(II)Z"⟩
abbrev cX6_says : ByteArray := prog_8_method_15_code
def yX6_says : MethodName := ⟨RX6, "says", "(II)I"⟩
abbrev cX6_addThing : ByteArray := prog_8_method_16_code
def yX6_addThing : MethodName := ⟨RX6, "addThing", "(IIIII)V"⟩
abbrev cX6_thing : ByteArray := prog_8_method_17_code
def yX6_thing : MethodName := ⟨RX6, "thing", "(IIIII)I"⟩
abbrev cX6_isOne : ByteArray := prog_8_method_18_code
def yX6_isOne : MethodName := ⟨RX6, "isOne", "(JJJ)Z"⟩
abbrev cX6_addBuyer : ByteArray := prog_8_method_19_code
def yX6_addBuyer : MethodName := ⟨RX6, "addBuyer", "(III)I"⟩
abbrev cX6_buyer : ByteArray := prog_8_method_20_code
def yX6_buyer : MethodName := ⟨RX6, "buyer", "(III)I"⟩
abbrev cX6_buyers : ByteArray := prog_8_method_21_code
def yX6_buyers : MethodName := ⟨RX6, "buyers", "(II)I"⟩
abbrev cX6_placeOf : ByteArray := prog_8_method_22_code
def yX6_placeOf : MethodName := ⟨RX6, "placeOf", "(I)I"⟩
abbrev cX6_change : ByteArray := prog_8_method_23_code
def yX6_change : MethodName := ⟨RX6, "change", "(III)I"⟩
abbrev cX6_mostOf : ByteArray := prog_8_method_24_code
def yX6_mostOf : MethodName := ⟨RX6, "mostOf", "(I)I"⟩
abbrev cX6_leastOf : ByteArray := prog_8_method_25_code
def yX6_leastOf : MethodName := ⟨RX6, "leastOf", "(I)I"⟩
abbrev cX6_ask : ByteArray := prog_8_method_26_code
def yX6_ask : MethodName := ⟨RX6, "ask", "(II)I"⟩
abbrev cX6_feed : ByteArray := prog_8_method_27_code
def yX6_feed : MethodName := ⟨RX6, "feed", "(I)I"⟩
abbrev cX6_wipe : ByteArray := prog_8_method_28_code
def yX6_wipe : MethodName := ⟨RX6, "wipe", "()I"⟩
abbrev cX6_isLetter : ByteArray := prog_8_method_29_code
def yX6_isLetter : MethodName := ⟨RX6, "isLetter", "(I)Z"⟩
abbrev cX6_isDigit : ByteArray := prog_8_method_30_code
def yX6_isDigit : MethodName := ⟨RX6, "isDigit", "(I)Z"⟩
abbrev cX6_look : ByteArray := prog_8_method_31_code
def yX6_look : MethodName := ⟨RX6, "look", "()V"⟩
abbrev cX6_wrong : ByteArray := prog_8_method_32_code
def yX6_wrong : MethodName := ⟨RX6, "wrong", "()Z"⟩
abbrev cX6_isWord : ByteArray := prog_8_method_33_code
def yX6_isWord : MethodName := ⟨RX6, "isWord", "(Ljava/lang/String;)Z"⟩
abbrev cX6_number : ByteArray := prog_8_method_34_code
def yX6_number : MethodName := ⟨RX6, "number", "(III)Z"⟩
abbrev cX6_tells : ByteArray := prog_8_method_35_code
def yX6_tells : MethodName := ⟨RX6, "tells", "(II)Z"⟩
abbrev cX6_thingTold : ByteArray := prog_8_method_36_code
def yX6_thingTold : MethodName := ⟨RX6, "thingTold", "()Z"⟩
abbrev cX6_changeTold : ByteArray := prog_8_method_37_code
def yX6_changeTold : MethodName := ⟨RX6, "changeTold", "(II)Z"⟩
abbrev cX6_askedTold : ByteArray := prog_8_method_38_code
def yX6_askedTold : MethodName := ⟨RX6, "askedTold", "(I)Z"⟩
abbrev cX6_statement : ByteArray := prog_8_method_39_code
def yX6_statement : MethodName := ⟨RX6, "statement", "()Z"⟩
abbrev cX6_readAll : ByteArray := prog_8_method_40_code
def yX6_readAll : MethodName := ⟨RX6, "readAll", "()Z"⟩
abbrev cX6_sale : ByteArray := prog_8_method_41_code
def yX6_sale : MethodName := ⟨RX6, "sale", "()I"⟩
abbrev cX6_thingOf : ByteArray := prog_8_method_42_code
def yX6_thingOf : MethodName := ⟨RX6, "thingOf", "(II)I"⟩
abbrev cX6_buyerOf : ByteArray := prog_8_method_43_code
def yX6_buyerOf : MethodName := ⟨RX6, "buyerOf", "(II)I"⟩
abbrev cX6_priceOf : ByteArray := prog_8_method_44_code
def yX6_priceOf : MethodName := ⟨RX6, "priceOf", "(II)I"⟩
abbrev cX6_price : ByteArray := prog_8_method_45_code
def yX6_price : MethodName := ⟨RX6, "price", "(II)I"⟩
abbrev cX6_findOn : ByteArray := prog_8_method_46_code
def yX6_findOn : MethodName := ⟨RX6, "findOn", "(I)I"⟩
abbrev cX6_startMorning : ByteArray := prog_8_method_47_code
def yX6_startMorning : MethodName := ⟨RX6, "startMorning", "()V"⟩
abbrev cX6_on : ByteArray := prog_8_method_48_code
def yX6_on : MethodName := ⟨RX6, "on", "(I)I"⟩
abbrev cX6_plain : ByteArray := prog_8_method_49_code
def yX6_plain : MethodName := ⟨RX6, "plain", "(III)I"⟩
abbrev cX6_pay : ByteArray := prog_8_method_50_code
def yX6_pay : MethodName := ⟨RX6, "pay", "(IIIII)I"⟩
abbrev cX6_pays : ByteArray := prog_8_method_51_code
def yX6_pays : MethodName := ⟨RX6, "pays", "(III)I"⟩
abbrev cX6_payOf : ByteArray := prog_8_method_52_code
def yX6_payOf : MethodName := ⟨RX6, "payOf", "(III)I"⟩
abbrev cX6_choice : ByteArray := prog_8_method_53_code
def yX6_choice : MethodName := ⟨RX6, "choice", "(II)I"⟩
abbrev cX6_goesBy : ByteArray := prog_8_method_54_code
def yX6_goesBy : MethodName := ⟨RX6, "goesBy", "(I)V"⟩
abbrev cX6_homeNow : ByteArray := prog_8_method_55_code
def yX6_homeNow : MethodName := ⟨RX6, "homeNow", "()I"⟩
abbrev cX6_gainNow : ByteArray := prog_8_method_56_code
def yX6_gainNow : MethodName := ⟨RX6, "gainNow", "()I"⟩
abbrev cX6_buys : ByteArray := prog_8_method_57_code
def yX6_buys : MethodName := ⟨RX6, "buys", "(I)I"⟩
abbrev cX6_comes : ByteArray := prog_8_method_58_code
def yX6_comes : MethodName := ⟨RX6, "comes", "(I)I"⟩
abbrev cX6_who : ByteArray := prog_8_method_59_code
def yX6_who : MethodName := ⟨RX6, "who", "(I)I"⟩
abbrev cX6_taken : ByteArray := prog_8_method_60_code
def yX6_taken : MethodName := ⟨RX6, "taken", "()I"⟩
abbrev cX6_left : ByteArray := prog_8_method_61_code
def yX6_left : MethodName := ⟨RX6, "left", "()I"⟩
abbrev cX6_home : ByteArray := prog_8_method_62_code
def yX6_home : MethodName := ⟨RX6, "home", "()I"⟩
abbrev cX6_gain : ByteArray := prog_8_method_63_code
def yX6_gain : MethodName := ⟨RX6, "gain", "()I"⟩
abbrev cX6_bestOf : ByteArray := prog_8_method_64_code
def yX6_bestOf : MethodName := ⟨RX6, "bestOf", "(III)I"⟩
abbrev cX6_bestMark : ByteArray := prog_8_method_65_code
def yX6_bestMark : MethodName := ⟨RX6, "bestMark", "(I)I"⟩
abbrev cX6_bestFrom : ByteArray := prog_8_method_66_code
def yX6_bestFrom : MethodName := ⟨RX6, "bestFrom", "(I)I"⟩
abbrev cX6_bestAsked : ByteArray := prog_8_method_67_code
def yX6_bestAsked : MethodName := ⟨RX6, "bestAsked", "(I)I"⟩
abbrev cX6_bestFall : ByteArray := prog_8_method_68_code
def yX6_bestFall : MethodName := ⟨RX6, "bestFall", "()I"⟩
abbrev cX6_feet : ByteArray := prog_8_method_69_code
def yX6_feet : MethodName := ⟨RX6, "feet", "()I"⟩
abbrev cX6_table : ByteArray := prog_8_method_70_code
def yX6_table : MethodName := ⟨RX6, "table", "()I"⟩
abbrev cX6_markAll : ByteArray := prog_8_method_71_code
def yX6_markAll : MethodName := ⟨RX6, "markAll", "()V"⟩
abbrev cX6_marked : ByteArray := prog_8_method_72_code
def yX6_marked : MethodName := ⟨RX6, "marked", "(I)I"⟩
abbrev cX6_couldHave : ByteArray := prog_8_method_73_code
def yX6_couldHave : MethodName := ⟨RX6, "couldHave", "(II)Z"⟩
abbrev cX6_gainByOffer : ByteArray := prog_8_method_74_code
def yX6_gainByOffer : MethodName := ⟨RX6, "gainByOffer", "(III)I"⟩
abbrev cX6_offer : ByteArray := prog_8_method_75_code
def yX6_offer : MethodName := ⟨RX6, "offer", "(III)I"⟩
abbrev cX6_least : ByteArray := prog_8_method_76_code
def yX6_least : MethodName := ⟨RX6, "least", "(II)I"⟩
abbrev cX6_rain : ByteArray := prog_8_method_77_code
def yX6_rain : MethodName := ⟨RX6, "rain", "(I)I"⟩
abbrev cX6_neighbour : ByteArray := prog_8_method_78_code
def yX6_neighbour : MethodName := ⟨RX6, "neighbour", "(III)I"⟩
abbrev cX6_quick : ByteArray := prog_8_method_79_code
def yX6_quick : MethodName := ⟨RX6, "quick", "(III)I"⟩
abbrev cX6_worthOf : ByteArray := prog_8_method_80_code
def yX6_worthOf : MethodName := ⟨RX6, "worthOf", "(I)I"⟩
abbrev cX6_worthy : ByteArray := prog_8_method_81_code
def yX6_worthy : MethodName := ⟨RX6, "worthy", "(I)I"⟩
abbrev cX6_changeThings : ByteArray := prog_8_method_82_code
def yX6_changeThings : MethodName := ⟨RX6, "changeThings", "(II)V"⟩
abbrev cX6_swap : ByteArray := prog_8_method_83_code
def yX6_swap : MethodName := ⟨RX6, "swap", "(II)I"⟩
abbrev cX6_ahead : ByteArray := prog_8_method_84_code
def yX6_ahead : MethodName := ⟨RX6, "ahead", "(I)I"⟩
abbrev cX6_dearest : ByteArray := prog_8_method_85_code
def yX6_dearest : MethodName := ⟨RX6, "dearest", "()I"⟩
abbrev cX6_hour : ByteArray := prog_8_method_86_code
def yX6_hour : MethodName := ⟨RX6, "hour", "()I"⟩
abbrev cX6_noMarks : ByteArray := prog_8_method_87_code
def yX6_noMarks : MethodName := ⟨RX6, "noMarks", "(I)I"⟩
abbrev cX6_wrongMark : ByteArray := prog_8_method_88_code
def yX6_wrongMark : MethodName := ⟨RX6, "wrongMark", "(I)I"⟩
abbrev cX6_judge : ByteArray := prog_8_method_89_code
def yX6_judge : MethodName := ⟨RX6, "judge", "(I)I"⟩
abbrev cX6_setMarks : ByteArray := prog_8_method_90_code
def yX6_setMarks : MethodName := ⟨RX6, "setMarks", "(ILBootSaleModel;)V"⟩
abbrev cX6_told : ByteArray := prog_8_method_91_code
def yX6_told : MethodName := ⟨RX6, "told", "(I)I"⟩
abbrev cX6_marks : ByteArray := prog_8_method_92_code
def yX6_marks : MethodName := ⟨RX6, "marks", "(I)I"⟩
abbrev cX6_morning : ByteArray := prog_8_method_93_code
def yX6_morning : MethodName := ⟨RX6, "morning", "()I"⟩
abbrev cX6_below : ByteArray := prog_8_method_94_code
def yX6_below : MethodName := ⟨RX6, "below", "(I)I"⟩
abbrev cX6_draw : ByteArray := prog_8_method_95_code
def yX6_draw : MethodName := ⟨RX6, "draw", "(I)I"⟩
abbrev cX6_sum : ByteArray := prog_8_method_96_code
def yX6_sum : MethodName := ⟨RX6, "sum", "(I)I"⟩
abbrev cX6_clear : ByteArray := prog_8_method_97_code
def yX6_clear : MethodName := ⟨RX6, "clear", "()I"⟩
abbrev cX6_seed : ByteArray := prog_8_method_98_code
def yX6_seed : MethodName := ⟨RX6, "seed", "(I)I"⟩
abbrev cX6_fresh : ByteArray := prog_8_method_99_code
def yX6_fresh : MethodName := ⟨RX6, "fresh", "()LBootSaleModel;"⟩
abbrev cX6_over : ByteArray := prog_8_method_100_code
def yX6_over : MethodName := ⟨RX6, "over", "([I[I)V"⟩
abbrev cX6_takeFrom : ByteArray := prog_8_method_101_code
def yX6_takeFrom : MethodName := ⟨RX6, "takeFrom", "(LBootSaleModel;)V"⟩
abbrev cX6_image : ByteArray := prog_8_method_102_code
def yX6_image : MethodName := ⟨RX6, "image", "()I"⟩
abbrev cX6_back : ByteArray := prog_8_method_103_code
def yX6_back : MethodName := ⟨RX6, "back", "()I"⟩
abbrev cX6_status : ByteArray := prog_8_method_104_code
def yX6_status : MethodName := ⟨RX6, "status", "(I)I"⟩
def RJ6 : String := "java/lang/Integer"
abbrev cJ6_bitCount_0f7a4 : ByteArray := prog_9_method_49_code
def yJ6_bitCount_0f7a4 : MethodName := ⟨RJ6, "bitCount", "(I)I"⟩
def RJ9 : String := "java/lang/Math"
abbrev cJ9_max_7cf53 : ByteArray := prog_10_method_65_code
def yJ9_max_7cf53 : MethodName := ⟨RJ9, "max", "(II)I"⟩
abbrev cJ9_min_7cf53 : ByteArray := prog_10_method_69_code
def yJ9_min_7cf53 : MethodName := ⟨RJ9, "min", "(II)I"⟩
def RJ0 : String := "java/lang/String"
abbrev cJ0_length_8abf5 : ByteArray := prog_11_method_54_code
def yJ0_length_8abf5 : MethodName := ⟨RJ0, "length", "()I"⟩
abbrev cJ0_charAt_5068e : ByteArray := prog_11_method_56_code
def yJ0_charAt_5068e : MethodName := ⟨RJ0, "charAt", "(I)C"⟩
abbrev cJ0_coder_7d493 : ByteArray := prog_11_method_152_code
def yJ0_coder_7d493 : MethodName := ⟨RJ0, "coder", "()B"⟩
abbrev cJ0_isLatin1_aae02 : ByteArray := prog_11_method_154_code
def yJ0_isLatin1_aae02 : MethodName := ⟨RJ0, "isLatin1", "()Z"⟩
abbrev cJ0_checkIndex_df160 : ByteArray := prog_11_method_155_code
def yJ0_checkIndex_df160 : MethodName := ⟨RJ0, "checkIndex", "(II)V"⟩
def RJ1 : String := "java/lang/StringLatin1"
abbrev cJ1_charAt_3b067 : ByteArray := prog_12_method_2_code
def yJ1_charAt_3b067 : MethodName := ⟨RJ1, "charAt", "([BI)C"⟩
def RJ2 : String := "java/lang/StringUTF16"
abbrev cJ2_getChar_3b067 : ByteArray := prog_13_method_5_code
def yJ2_getChar_3b067 : MethodName := ⟨RJ2, "getChar", "([BI)C"⟩
abbrev cJ2_length_9d52b : ByteArray := prog_13_method_6_code
def yJ2_length_9d52b : MethodName := ⟨RJ2, "length", "([B)I"⟩
abbrev cJ2_charAt_3b067 : ByteArray := prog_13_method_83_code
def yJ2_charAt_3b067 : MethodName := ⟨RJ2, "charAt", "([BI)C"⟩
abbrev cJ2_checkIndex_2214a : ByteArray := prog_13_method_91_code
def yJ2_checkIndex_2214a : MethodName := ⟨RJ2, "checkIndex", "(I[B)V"⟩
def RJ10 : String := "java/lang/System"
def RJ3 : String := "jdk/internal/util/Preconditions"
abbrev cJ3_checkIndex_8e157 : ByteArray := prog_15_method_11_code
def yJ3_checkIndex_8e157 : MethodName := ⟨RJ3, "checkIndex", "(IILjava/util/function/BiFunction;)I"⟩
def RL : String := "BootSaleLaw"
abbrev cL_law : ByteArray := code
def yL_law : MethodName := ⟨RL, "law", "([I)Z"⟩
abbrev vwCl : List vw_C := [(RX0, TX0, 17), (RX1, TX1, 3), (RX2, TX2, 8), (RX3, TX3, 7), (RX4, TX4, 2), (RX5, TX5, 7), (RX6, TX6, 41)]
