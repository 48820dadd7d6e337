section
-- ===== PART A: goes FIRST, ahead of the names: the tables' words, and 'selects' of the private methods out of them =====
/-- a private method of a class that the tables say can be made, by its rows of tables_1 -/
def lw_okq (q : MethodName × Nat) : Prop := (q.1.cls ≠ "java/lang/invoke/MethodHandle" ∧ q.1.cls ≠ "java/lang/invoke/VarHandle") ∧ Cond.instantiable q.1.cls q.2 ∈ tables_1 ∧ Cond.privateMethod q.1 ∈ tables_1 ∧ Cond.instanceMethod q.1 ∈ tables_1
theorem lw_p0 : lw_okq (⟨"VillagePhotos$TextReader", "readHead", "(LVillagePhotos$Archive;)Z"⟩, 8) := ⟨⟨by decide +kernel, by decide +kernel⟩, List.mem_of_getElem? (i := 129) (by decide +kernel), List.mem_of_getElem? (i := 223) (by decide +kernel), List.mem_of_getElem? (i := 224) (by decide +kernel)⟩
theorem lw_p1 : lw_okq (⟨"VillagePhotos$TextReader", "needWord", "(Ljava/lang/String;)Z"⟩, 8) := ⟨⟨by decide +kernel, by decide +kernel⟩, List.mem_of_getElem? (i := 129) (by decide +kernel), List.mem_of_getElem? (i := 228) (by decide +kernel), List.mem_of_getElem? (i := 229) (by decide +kernel)⟩
theorem lw_p2 : lw_okq (⟨"VillagePhotos$TextReader", "takeWord", "(Ljava/lang/String;)Z"⟩, 8) := ⟨⟨by decide +kernel, by decide +kernel⟩, List.mem_of_getElem? (i := 129) (by decide +kernel), List.mem_of_getElem? (i := 232) (by decide +kernel), List.mem_of_getElem? (i := 233) (by decide +kernel)⟩
theorem lw_p3 : lw_okq (⟨"VillagePhotos$TextReader", "skipSpaces", "()V"⟩, 8) := ⟨⟨by decide +kernel, by decide +kernel⟩, List.mem_of_getElem? (i := 129) (by decide +kernel), List.mem_of_getElem? (i := 236) (by decide +kernel), List.mem_of_getElem? (i := 237) (by decide +kernel)⟩
theorem lw_p4 : lw_okq (⟨"VillagePhotos$TextReader", "wordEnd", "()I"⟩, 8) := ⟨⟨by decide +kernel, by decide +kernel⟩, List.mem_of_getElem? (i := 129) (by decide +kernel), List.mem_of_getElem? (i := 240) (by decide +kernel), List.mem_of_getElem? (i := 241) (by decide +kernel)⟩
theorem lw_p5 : lw_okq (⟨"VillagePhotos$TextReader", "fail", "(II)Z"⟩, 8) := ⟨⟨by decide +kernel, by decide +kernel⟩, List.mem_of_getElem? (i := 129) (by decide +kernel), List.mem_of_getElem? (i := 292) (by decide +kernel), List.mem_of_getElem? (i := 293) (by decide +kernel)⟩
theorem lw_p6 : lw_okq (⟨"VillagePhotos$TextReader", "needNumber", "(II)Z"⟩, 8) := ⟨⟨by decide +kernel, by decide +kernel⟩, List.mem_of_getElem? (i := 129) (by decide +kernel), List.mem_of_getElem? (i := 296) (by decide +kernel), List.mem_of_getElem? (i := 297) (by decide +kernel)⟩
theorem lw_p7 : lw_okq (⟨"VillagePhotos$TextReader", "isDigitAt", "(I)Z"⟩, 8) := ⟨⟨by decide +kernel, by decide +kernel⟩, List.mem_of_getElem? (i := 129) (by decide +kernel), List.mem_of_getElem? (i := 300) (by decide +kernel), List.mem_of_getElem? (i := 301) (by decide +kernel)⟩
theorem lw_p8 : lw_okq (⟨"VillagePhotos$TextReader", "needSemicolon", "()Z"⟩, 8) := ⟨⟨by decide +kernel, by decide +kernel⟩, List.mem_of_getElem? (i := 129) (by decide +kernel), List.mem_of_getElem? (i := 307) (by decide +kernel), List.mem_of_getElem? (i := 308) (by decide +kernel)⟩
theorem lw_p9 : lw_okq (⟨"VillagePhotos$TextReader", "readFamily", "(LVillagePhotos$Archive;)Z"⟩, 8) := ⟨⟨by decide +kernel, by decide +kernel⟩, List.mem_of_getElem? (i := 129) (by decide +kernel), List.mem_of_getElem? (i := 313) (by decide +kernel), List.mem_of_getElem? (i := 314) (by decide +kernel)⟩
theorem lw_p10 : lw_okq (⟨"VillagePhotos$TextReader", "needName", "()Z"⟩, 8) := ⟨⟨by decide +kernel, by decide +kernel⟩, List.mem_of_getElem? (i := 129) (by decide +kernel), List.mem_of_getElem? (i := 317) (by decide +kernel), List.mem_of_getElem? (i := 318) (by decide +kernel)⟩
theorem lw_p11 : lw_okq (⟨"VillagePhotos$TextReader", "placeOf", "([JI)I"⟩, 8) := ⟨⟨by decide +kernel, by decide +kernel⟩, List.mem_of_getElem? (i := 129) (by decide +kernel), List.mem_of_getElem? (i := 322) (by decide +kernel), List.mem_of_getElem? (i := 323) (by decide +kernel)⟩
theorem lw_p12 : lw_okq (⟨"VillagePhotos$TextReader", "readNeighbours", "(LVillagePhotos$Archive;)Z"⟩, 8) := ⟨⟨by decide +kernel, by decide +kernel⟩, List.mem_of_getElem? (i := 129) (by decide +kernel), List.mem_of_getElem? (i := 327) (by decide +kernel), List.mem_of_getElem? (i := 328) (by decide +kernel)⟩
theorem lw_p13 : lw_okq (⟨"VillagePhotos$TextReader", "needFamilyName", "(LVillagePhotos$Archive;)I"⟩, 8) := ⟨⟨by decide +kernel, by decide +kernel⟩, List.mem_of_getElem? (i := 129) (by decide +kernel), List.mem_of_getElem? (i := 332) (by decide +kernel), List.mem_of_getElem? (i := 333) (by decide +kernel)⟩
theorem lw_p14 : lw_okq (⟨"VillagePhotos$TextReader", "readPicture", "(LVillagePhotos$Archive;)Z"⟩, 8) := ⟨⟨by decide +kernel, by decide +kernel⟩, List.mem_of_getElem? (i := 129) (by decide +kernel), List.mem_of_getElem? (i := 345) (by decide +kernel), List.mem_of_getElem? (i := 346) (by decide +kernel)⟩
theorem lw_p15 : lw_okq (⟨"VillagePhotos$TextReader", "readCopy", "(LVillagePhotos$Archive;I)Z"⟩, 8) := ⟨⟨by decide +kernel, by decide +kernel⟩, List.mem_of_getElem? (i := 129) (by decide +kernel), List.mem_of_getElem? (i := 355) (by decide +kernel), List.mem_of_getElem? (i := 356) (by decide +kernel)⟩
def lw_privs_1 : List (MethodName × Nat) := [(⟨"VillagePhotos$TextReader", "readHead", "(LVillagePhotos$Archive;)Z"⟩, 8), (⟨"VillagePhotos$TextReader", "needWord", "(Ljava/lang/String;)Z"⟩, 8), (⟨"VillagePhotos$TextReader", "takeWord", "(Ljava/lang/String;)Z"⟩, 8), (⟨"VillagePhotos$TextReader", "skipSpaces", "()V"⟩, 8), (⟨"VillagePhotos$TextReader", "wordEnd", "()I"⟩, 8), (⟨"VillagePhotos$TextReader", "fail", "(II)Z"⟩, 8), (⟨"VillagePhotos$TextReader", "needNumber", "(II)Z"⟩, 8), (⟨"VillagePhotos$TextReader", "isDigitAt", "(I)Z"⟩, 8), (⟨"VillagePhotos$TextReader", "needSemicolon", "()Z"⟩, 8), (⟨"VillagePhotos$TextReader", "readFamily", "(LVillagePhotos$Archive;)Z"⟩, 8), (⟨"VillagePhotos$TextReader", "needName", "()Z"⟩, 8), (⟨"VillagePhotos$TextReader", "placeOf", "([JI)I"⟩, 8), (⟨"VillagePhotos$TextReader", "readNeighbours", "(LVillagePhotos$Archive;)Z"⟩, 8), (⟨"VillagePhotos$TextReader", "needFamilyName", "(LVillagePhotos$Archive;)I"⟩, 8), (⟨"VillagePhotos$TextReader", "readPicture", "(LVillagePhotos$Archive;)Z"⟩, 8), (⟨"VillagePhotos$TextReader", "readCopy", "(LVillagePhotos$Archive;I)Z"⟩, 8)]
theorem lw_r1 : ∀ q ∈ lw_privs_1, lw_okq q := List.forall_mem_cons.mpr ⟨lw_p0, List.forall_mem_cons.mpr ⟨lw_p1, List.forall_mem_cons.mpr ⟨lw_p2, List.forall_mem_cons.mpr ⟨lw_p3, List.forall_mem_cons.mpr ⟨lw_p4, List.forall_mem_cons.mpr ⟨lw_p5, List.forall_mem_cons.mpr ⟨lw_p6, List.forall_mem_cons.mpr ⟨lw_p7, List.forall_mem_cons.mpr ⟨lw_p8, List.forall_mem_cons.mpr ⟨lw_p9, List.forall_mem_cons.mpr ⟨lw_p10, List.forall_mem_cons.mpr ⟨lw_p11, List.forall_mem_cons.mpr ⟨lw_p12, List.forall_mem_cons.mpr ⟨lw_p13, List.forall_mem_cons.mpr ⟨lw_p14, List.forall_mem_cons.mpr ⟨lw_p15, fun _ h => absurd h List.not_mem_nil⟩⟩⟩⟩⟩⟩⟩⟩⟩⟩⟩⟩⟩⟩⟩⟩
theorem lw_p16 : lw_okq (⟨"VillagePhotos$TextReader", "needTiles", "(I)I"⟩, 8) := ⟨⟨by decide +kernel, by decide +kernel⟩, List.mem_of_getElem? (i := 129) (by decide +kernel), List.mem_of_getElem? (i := 368) (by decide +kernel), List.mem_of_getElem? (i := 369) (by decide +kernel)⟩
theorem lw_p17 : lw_okq (⟨"VillagePhotos$TextReader", "isDigitNext", "()Z"⟩, 8) := ⟨⟨by decide +kernel, by decide +kernel⟩, List.mem_of_getElem? (i := 129) (by decide +kernel), List.mem_of_getElem? (i := 372) (by decide +kernel), List.mem_of_getElem? (i := 373) (by decide +kernel)⟩
theorem lw_p18 : lw_okq (⟨"VillagePhotos$TextReader", "needEnd", "()Z"⟩, 8) := ⟨⟨by decide +kernel, by decide +kernel⟩, List.mem_of_getElem? (i := 129) (by decide +kernel), List.mem_of_getElem? (i := 383) (by decide +kernel), List.mem_of_getElem? (i := 384) (by decide +kernel)⟩
theorem lw_p19 : lw_okq (⟨"VillagePhotos$Archive", "bestNewHolder", "(I)I"⟩, 16) := ⟨⟨by decide +kernel, by decide +kernel⟩, List.mem_of_getElem? (i := 31) (by decide +kernel), List.mem_of_getElem? (i := 479) (by decide +kernel), List.mem_of_getElem? (i := 480) (by decide +kernel)⟩
theorem lw_p20 : lw_okq (⟨"VillagePhotos$Archive", "isBetterHolder", "(II)Z"⟩, 16) := ⟨⟨by decide +kernel, by decide +kernel⟩, List.mem_of_getElem? (i := 31) (by decide +kernel), List.mem_of_getElem? (i := 489) (by decide +kernel), List.mem_of_getElem? (i := 490) (by decide +kernel)⟩
theorem lw_p21 : lw_okq (⟨"VillagePhotos$PictureWriter", "putSign", "(I)V"⟩, 2) := ⟨⟨by decide +kernel, by decide +kernel⟩, List.mem_of_getElem? (i := 164) (by decide +kernel), List.mem_of_getElem? (i := 547) (by decide +kernel), List.mem_of_getElem? (i := 548) (by decide +kernel)⟩
theorem lw_p22 : lw_okq (⟨"VillagePhotos$PictureWriter", "putName", "(J)V"⟩, 2) := ⟨⟨by decide +kernel, by decide +kernel⟩, List.mem_of_getElem? (i := 164) (by decide +kernel), List.mem_of_getElem? (i := 551) (by decide +kernel), List.mem_of_getElem? (i := 552) (by decide +kernel)⟩
theorem lw_p23 : lw_okq (⟨"VillagePhotos$PictureWriter", "putHolders", "(LVillagePhotos$Archive;I)V"⟩, 2) := ⟨⟨by decide +kernel, by decide +kernel⟩, List.mem_of_getElem? (i := 164) (by decide +kernel), List.mem_of_getElem? (i := 558) (by decide +kernel), List.mem_of_getElem? (i := 559) (by decide +kernel)⟩
theorem lw_p24 : lw_okq (⟨"java/lang/Throwable", "fillInStackTrace", "(I)Ljava/lang/Throwable;"⟩, 6) := ⟨⟨by decide +kernel, by decide +kernel⟩, List.mem_of_getElem? (i := 614) (by decide +kernel), List.mem_of_getElem? (i := 612) (by decide +kernel), List.mem_of_getElem? (i := 613) (by decide +kernel)⟩
theorem lw_p25 : lw_okq (⟨"VillagePhotos", "needFamily", "(I)V"⟩, 6) := ⟨⟨by decide +kernel, by decide +kernel⟩, List.mem_of_getElem? (i := 23) (by decide +kernel), List.mem_of_getElem? (i := 698) (by decide +kernel), List.mem_of_getElem? (i := 699) (by decide +kernel)⟩
theorem lw_p26 : lw_okq (⟨"VillagePhotos", "needPicture", "(I)V"⟩, 6) := ⟨⟨by decide +kernel, by decide +kernel⟩, List.mem_of_getElem? (i := 23) (by decide +kernel), List.mem_of_getElem? (i := 730) (by decide +kernel), List.mem_of_getElem? (i := 731) (by decide +kernel)⟩
theorem lw_p27 : lw_okq (⟨"VillagePhotos", "needBoth", "(II)V"⟩, 6) := ⟨⟨by decide +kernel, by decide +kernel⟩, List.mem_of_getElem? (i := 23) (by decide +kernel), List.mem_of_getElem? (i := 746) (by decide +kernel), List.mem_of_getElem? (i := 747) (by decide +kernel)⟩
theorem lw_p28 : lw_okq (⟨"VillagePhotos$Archive", "heldCopiesSpoiledAt", "(II)I"⟩, 16) := ⟨⟨by decide +kernel, by decide +kernel⟩, List.mem_of_getElem? (i := 31) (by decide +kernel), List.mem_of_getElem? (i := 784) (by decide +kernel), List.mem_of_getElem? (i := 785) (by decide +kernel)⟩
theorem lw_p29 : lw_okq (⟨"VillagePhotos$Archive", "tileFor", "(I)I"⟩, 16) := ⟨⟨by decide +kernel, by decide +kernel⟩, List.mem_of_getElem? (i := 31) (by decide +kernel), List.mem_of_getElem? (i := 805) (by decide +kernel), List.mem_of_getElem? (i := 806) (by decide +kernel)⟩
theorem lw_p30 : lw_okq (⟨"VillagePhotosModel", "begins", "()V"⟩, 24) := ⟨⟨by decide +kernel, by decide +kernel⟩, List.mem_of_getElem? (i := 967) (by decide +kernel), List.mem_of_getElem? (i := 973) (by decide +kernel), List.mem_of_getElem? (i := 974) (by decide +kernel)⟩
theorem lw_p31 : lw_okq (⟨"VillagePhotosModel", "setsOf", "(III)V"⟩, 24) := ⟨⟨by decide +kernel, by decide +kernel⟩, List.mem_of_getElem? (i := 967) (by decide +kernel), List.mem_of_getElem? (i := 977) (by decide +kernel), List.mem_of_getElem? (i := 978) (by decide +kernel)⟩
def lw_privs_2 : List (MethodName × Nat) := [(⟨"VillagePhotos$TextReader", "needTiles", "(I)I"⟩, 8), (⟨"VillagePhotos$TextReader", "isDigitNext", "()Z"⟩, 8), (⟨"VillagePhotos$TextReader", "needEnd", "()Z"⟩, 8), (⟨"VillagePhotos$Archive", "bestNewHolder", "(I)I"⟩, 16), (⟨"VillagePhotos$Archive", "isBetterHolder", "(II)Z"⟩, 16), (⟨"VillagePhotos$PictureWriter", "putSign", "(I)V"⟩, 2), (⟨"VillagePhotos$PictureWriter", "putName", "(J)V"⟩, 2), (⟨"VillagePhotos$PictureWriter", "putHolders", "(LVillagePhotos$Archive;I)V"⟩, 2), (⟨"java/lang/Throwable", "fillInStackTrace", "(I)Ljava/lang/Throwable;"⟩, 6), (⟨"VillagePhotos", "needFamily", "(I)V"⟩, 6), (⟨"VillagePhotos", "needPicture", "(I)V"⟩, 6), (⟨"VillagePhotos", "needBoth", "(II)V"⟩, 6), (⟨"VillagePhotos$Archive", "heldCopiesSpoiledAt", "(II)I"⟩, 16), (⟨"VillagePhotos$Archive", "tileFor", "(I)I"⟩, 16), (⟨"VillagePhotosModel", "begins", "()V"⟩, 24), (⟨"VillagePhotosModel", "setsOf", "(III)V"⟩, 24)]
theorem lw_r2 : ∀ q ∈ lw_privs_2, lw_okq q := List.forall_mem_cons.mpr ⟨lw_p16, List.forall_mem_cons.mpr ⟨lw_p17, List.forall_mem_cons.mpr ⟨lw_p18, List.forall_mem_cons.mpr ⟨lw_p19, List.forall_mem_cons.mpr ⟨lw_p20, List.forall_mem_cons.mpr ⟨lw_p21, List.forall_mem_cons.mpr ⟨lw_p22, List.forall_mem_cons.mpr ⟨lw_p23, List.forall_mem_cons.mpr ⟨lw_p24, List.forall_mem_cons.mpr ⟨lw_p25, List.forall_mem_cons.mpr ⟨lw_p26, List.forall_mem_cons.mpr ⟨lw_p27, List.forall_mem_cons.mpr ⟨lw_p28, List.forall_mem_cons.mpr ⟨lw_p29, List.forall_mem_cons.mpr ⟨lw_p30, List.forall_mem_cons.mpr ⟨lw_p31, fun _ h => absurd h List.not_mem_nil⟩⟩⟩⟩⟩⟩⟩⟩⟩⟩⟩⟩⟩⟩⟩⟩
theorem lw_p32 : lw_okq (⟨"VillagePhotosModel", "keeps", "([I)V"⟩, 24) := ⟨⟨by decide +kernel, by decide +kernel⟩, List.mem_of_getElem? (i := 967) (by decide +kernel), List.mem_of_getElem? (i := 1077) (by decide +kernel), List.mem_of_getElem? (i := 1078) (by decide +kernel)⟩
theorem lw_p33 : lw_okq (⟨"VillagePhotosModel", "families", "()I"⟩, 24) := ⟨⟨by decide +kernel, by decide +kernel⟩, List.mem_of_getElem? (i := 967) (by decide +kernel), List.mem_of_getElem? (i := 1081) (by decide +kernel), List.mem_of_getElem? (i := 1082) (by decide +kernel)⟩
theorem lw_p34 : lw_okq (⟨"VillagePhotosModel", "next", "()V"⟩, 24) := ⟨⟨by decide +kernel, by decide +kernel⟩, List.mem_of_getElem? (i := 967) (by decide +kernel), List.mem_of_getElem? (i := 1096) (by decide +kernel), List.mem_of_getElem? (i := 1097) (by decide +kernel)⟩
theorem lw_p35 : lw_okq (⟨"VillagePhotosModel", "see", "(I)I"⟩, 24) := ⟨⟨by decide +kernel, by decide +kernel⟩, List.mem_of_getElem? (i := 967) (by decide +kernel), List.mem_of_getElem? (i := 1100) (by decide +kernel), List.mem_of_getElem? (i := 1101) (by decide +kernel)⟩
theorem lw_p36 : lw_okq (⟨"VillagePhotosModel", "isLetter", "(I)Z"⟩, 24) := ⟨⟨by decide +kernel, by decide +kernel⟩, List.mem_of_getElem? (i := 967) (by decide +kernel), List.mem_of_getElem? (i := 1104) (by decide +kernel), List.mem_of_getElem? (i := 1105) (by decide +kernel)⟩
theorem lw_p37 : lw_okq (⟨"VillagePhotosModel", "isDigit", "(I)Z"⟩, 24) := ⟨⟨by decide +kernel, by decide +kernel⟩, List.mem_of_getElem? (i := 967) (by decide +kernel), List.mem_of_getElem? (i := 1108) (by decide +kernel), List.mem_of_getElem? (i := 1109) (by decide +kernel)⟩
theorem lw_p38 : lw_okq (⟨"VillagePhotosModel", "isWord", "(Ljava/lang/String;)Z"⟩, 24) := ⟨⟨by decide +kernel, by decide +kernel⟩, List.mem_of_getElem? (i := 967) (by decide +kernel), List.mem_of_getElem? (i := 1114) (by decide +kernel), List.mem_of_getElem? (i := 1115) (by decide +kernel)⟩
theorem lw_p39 : lw_okq (⟨"VillagePhotosModel", "must", "(Z)V"⟩, 24) := ⟨⟨by decide +kernel, by decide +kernel⟩, List.mem_of_getElem? (i := 967) (by decide +kernel), List.mem_of_getElem? (i := 1120) (by decide +kernel), List.mem_of_getElem? (i := 1121) (by decide +kernel)⟩
theorem lw_p40 : lw_okq (⟨"VillagePhotosModel", "fails", "(I)V"⟩, 24) := ⟨⟨by decide +kernel, by decide +kernel⟩, List.mem_of_getElem? (i := 967) (by decide +kernel), List.mem_of_getElem? (i := 1124) (by decide +kernel), List.mem_of_getElem? (i := 1125) (by decide +kernel)⟩
theorem lw_p41 : lw_okq (⟨"VillagePhotosModel", "takes", "(II)I"⟩, 24) := ⟨⟨by decide +kernel, by decide +kernel⟩, List.mem_of_getElem? (i := 967) (by decide +kernel), List.mem_of_getElem? (i := 1128) (by decide +kernel), List.mem_of_getElem? (i := 1129) (by decide +kernel)⟩
theorem lw_p42 : lw_okq (⟨"VillagePhotosModel", "stands", "(II)I"⟩, 24) := ⟨⟨by decide +kernel, by decide +kernel⟩, List.mem_of_getElem? (i := 967) (by decide +kernel), List.mem_of_getElem? (i := 1132) (by decide +kernel), List.mem_of_getElem? (i := 1133) (by decide +kernel)⟩
theorem lw_p43 : lw_okq (⟨"VillagePhotosModel", "mustEnd", "()V"⟩, 24) := ⟨⟨by decide +kernel, by decide +kernel⟩, List.mem_of_getElem? (i := 967) (by decide +kernel), List.mem_of_getElem? (i := 1136) (by decide +kernel), List.mem_of_getElem? (i := 1137) (by decide +kernel)⟩
theorem lw_p44 : lw_okq (⟨"VillagePhotosModel", "readsFamily", "()V"⟩, 24) := ⟨⟨by decide +kernel, by decide +kernel⟩, List.mem_of_getElem? (i := 967) (by decide +kernel), List.mem_of_getElem? (i := 1140) (by decide +kernel), List.mem_of_getElem? (i := 1141) (by decide +kernel)⟩
theorem lw_p45 : lw_okq (⟨"VillagePhotosModel", "mustName", "()V"⟩, 24) := ⟨⟨by decide +kernel, by decide +kernel⟩, List.mem_of_getElem? (i := 967) (by decide +kernel), List.mem_of_getElem? (i := 1145) (by decide +kernel), List.mem_of_getElem? (i := 1146) (by decide +kernel)⟩
theorem lw_p46 : lw_okq (⟨"VillagePhotosModel", "named", "(III)I"⟩, 24) := ⟨⟨by decide +kernel, by decide +kernel⟩, List.mem_of_getElem? (i := 967) (by decide +kernel), List.mem_of_getElem? (i := 1149) (by decide +kernel), List.mem_of_getElem? (i := 1150) (by decide +kernel)⟩
theorem lw_p47 : lw_okq (⟨"VillagePhotosModel", "putsName", "(I)V"⟩, 24) := ⟨⟨by decide +kernel, by decide +kernel⟩, List.mem_of_getElem? (i := 967) (by decide +kernel), List.mem_of_getElem? (i := 1153) (by decide +kernel), List.mem_of_getElem? (i := 1154) (by decide +kernel)⟩
def lw_privs_3 : List (MethodName × Nat) := [(⟨"VillagePhotosModel", "keeps", "([I)V"⟩, 24), (⟨"VillagePhotosModel", "families", "()I"⟩, 24), (⟨"VillagePhotosModel", "next", "()V"⟩, 24), (⟨"VillagePhotosModel", "see", "(I)I"⟩, 24), (⟨"VillagePhotosModel", "isLetter", "(I)Z"⟩, 24), (⟨"VillagePhotosModel", "isDigit", "(I)Z"⟩, 24), (⟨"VillagePhotosModel", "isWord", "(Ljava/lang/String;)Z"⟩, 24), (⟨"VillagePhotosModel", "must", "(Z)V"⟩, 24), (⟨"VillagePhotosModel", "fails", "(I)V"⟩, 24), (⟨"VillagePhotosModel", "takes", "(II)I"⟩, 24), (⟨"VillagePhotosModel", "stands", "(II)I"⟩, 24), (⟨"VillagePhotosModel", "mustEnd", "()V"⟩, 24), (⟨"VillagePhotosModel", "readsFamily", "()V"⟩, 24), (⟨"VillagePhotosModel", "mustName", "()V"⟩, 24), (⟨"VillagePhotosModel", "named", "(III)I"⟩, 24), (⟨"VillagePhotosModel", "putsName", "(I)V"⟩, 24)]
theorem lw_r3 : ∀ q ∈ lw_privs_3, lw_okq q := List.forall_mem_cons.mpr ⟨lw_p32, List.forall_mem_cons.mpr ⟨lw_p33, List.forall_mem_cons.mpr ⟨lw_p34, List.forall_mem_cons.mpr ⟨lw_p35, List.forall_mem_cons.mpr ⟨lw_p36, List.forall_mem_cons.mpr ⟨lw_p37, List.forall_mem_cons.mpr ⟨lw_p38, List.forall_mem_cons.mpr ⟨lw_p39, List.forall_mem_cons.mpr ⟨lw_p40, List.forall_mem_cons.mpr ⟨lw_p41, List.forall_mem_cons.mpr ⟨lw_p42, List.forall_mem_cons.mpr ⟨lw_p43, List.forall_mem_cons.mpr ⟨lw_p44, List.forall_mem_cons.mpr ⟨lw_p45, List.forall_mem_cons.mpr ⟨lw_p46, List.forall_mem_cons.mpr ⟨lw_p47, fun _ h => absurd h List.not_mem_nil⟩⟩⟩⟩⟩⟩⟩⟩⟩⟩⟩⟩⟩⟩⟩⟩
theorem lw_p48 : lw_okq (⟨"VillagePhotosModel", "readsNear", "()V"⟩, 24) := ⟨⟨by decide +kernel, by decide +kernel⟩, List.mem_of_getElem? (i := 967) (by decide +kernel), List.mem_of_getElem? (i := 1158) (by decide +kernel), List.mem_of_getElem? (i := 1159) (by decide +kernel)⟩
theorem lw_p49 : lw_okq (⟨"VillagePhotosModel", "familyHere", "()I"⟩, 24) := ⟨⟨by decide +kernel, by decide +kernel⟩, List.mem_of_getElem? (i := 967) (by decide +kernel), List.mem_of_getElem? (i := 1162) (by decide +kernel), List.mem_of_getElem? (i := 1163) (by decide +kernel)⟩
theorem lw_p50 : lw_okq (⟨"VillagePhotosModel", "areNear", "(II)Z"⟩, 24) := ⟨⟨by decide +kernel, by decide +kernel⟩, List.mem_of_getElem? (i := 967) (by decide +kernel), List.mem_of_getElem? (i := 1166) (by decide +kernel), List.mem_of_getElem? (i := 1167) (by decide +kernel)⟩
theorem lw_p51 : lw_okq (⟨"VillagePhotosModel", "ofFamily", "(II)I"⟩, 24) := ⟨⟨by decide +kernel, by decide +kernel⟩, List.mem_of_getElem? (i := 967) (by decide +kernel), List.mem_of_getElem? (i := 1170) (by decide +kernel), List.mem_of_getElem? (i := 1171) (by decide +kernel)⟩
theorem lw_p52 : lw_okq (⟨"VillagePhotosModel", "joinsNear", "(II)V"⟩, 24) := ⟨⟨by decide +kernel, by decide +kernel⟩, List.mem_of_getElem? (i := 967) (by decide +kernel), List.mem_of_getElem? (i := 1174) (by decide +kernel), List.mem_of_getElem? (i := 1175) (by decide +kernel)⟩
theorem lw_p53 : lw_okq (⟨"VillagePhotosModel", "readsPicture", "()V"⟩, 24) := ⟨⟨by decide +kernel, by decide +kernel⟩, List.mem_of_getElem? (i := 967) (by decide +kernel), List.mem_of_getElem? (i := 1179) (by decide +kernel), List.mem_of_getElem? (i := 1180) (by decide +kernel)⟩
theorem lw_p54 : lw_okq (⟨"VillagePhotosModel", "pictures", "()I"⟩, 24) := ⟨⟨by decide +kernel, by decide +kernel⟩, List.mem_of_getElem? (i := 967) (by decide +kernel), List.mem_of_getElem? (i := 1183) (by decide +kernel), List.mem_of_getElem? (i := 1184) (by decide +kernel)⟩
theorem lw_p55 : lw_okq (⟨"VillagePhotosModel", "setsCopy", "(III)V"⟩, 24) := ⟨⟨by decide +kernel, by decide +kernel⟩, List.mem_of_getElem? (i := 967) (by decide +kernel), List.mem_of_getElem? (i := 1187) (by decide +kernel), List.mem_of_getElem? (i := 1188) (by decide +kernel)⟩
theorem lw_p56 : lw_okq (⟨"VillagePhotosModel", "readsCopy", "(I)V"⟩, 24) := ⟨⟨by decide +kernel, by decide +kernel⟩, List.mem_of_getElem? (i := 967) (by decide +kernel), List.mem_of_getElem? (i := 1193) (by decide +kernel), List.mem_of_getElem? (i := 1194) (by decide +kernel)⟩
theorem lw_p57 : lw_okq (⟨"VillagePhotosModel", "copyOf", "(II)I"⟩, 24) := ⟨⟨by decide +kernel, by decide +kernel⟩, List.mem_of_getElem? (i := 967) (by decide +kernel), List.mem_of_getElem? (i := 1197) (by decide +kernel), List.mem_of_getElem? (i := 1198) (by decide +kernel)⟩
theorem lw_p58 : lw_okq (⟨"VillagePhotosModel", "leftOf", "(I)I"⟩, 24) := ⟨⟨by decide +kernel, by decide +kernel⟩, List.mem_of_getElem? (i := 967) (by decide +kernel), List.mem_of_getElem? (i := 1201) (by decide +kernel), List.mem_of_getElem? (i := 1202) (by decide +kernel)⟩
theorem lw_p59 : lw_okq (⟨"VillagePhotosModel", "copiesOf", "(II)I"⟩, 24) := ⟨⟨by decide +kernel, by decide +kernel⟩, List.mem_of_getElem? (i := 967) (by decide +kernel), List.mem_of_getElem? (i := 1205) (by decide +kernel), List.mem_of_getElem? (i := 1206) (by decide +kernel)⟩
theorem lw_p60 : lw_okq (⟨"VillagePhotosModel", "allOf", "(I)I"⟩, 24) := ⟨⟨by decide +kernel, by decide +kernel⟩, List.mem_of_getElem? (i := 967) (by decide +kernel), List.mem_of_getElem? (i := 1233) (by decide +kernel), List.mem_of_getElem? (i := 1234) (by decide +kernel)⟩
theorem lw_p61 : lw_okq (⟨"VillagePhotosModel", "holders", "(II)I"⟩, 24) := ⟨⟨by decide +kernel, by decide +kernel⟩, List.mem_of_getElem? (i := 967) (by decide +kernel), List.mem_of_getElem? (i := 1237) (by decide +kernel), List.mem_of_getElem? (i := 1238) (by decide +kernel)⟩
theorem lw_p62 : lw_okq (⟨"VillagePhotosModel", "dangers", "(Z)I"⟩, 24) := ⟨⟨by decide +kernel, by decide +kernel⟩, List.mem_of_getElem? (i := 967) (by decide +kernel), List.mem_of_getElem? (i := 1244) (by decide +kernel), List.mem_of_getElem? (i := 1245) (by decide +kernel)⟩
theorem lw_p63 : lw_okq (⟨"VillagePhotosModel", "isTruly", "(I)Z"⟩, 24) := ⟨⟨by decide +kernel, by decide +kernel⟩, List.mem_of_getElem? (i := 967) (by decide +kernel), List.mem_of_getElem? (i := 1248) (by decide +kernel), List.mem_of_getElem? (i := 1249) (by decide +kernel)⟩
def lw_privs_4 : List (MethodName × Nat) := [(⟨"VillagePhotosModel", "readsNear", "()V"⟩, 24), (⟨"VillagePhotosModel", "familyHere", "()I"⟩, 24), (⟨"VillagePhotosModel", "areNear", "(II)Z"⟩, 24), (⟨"VillagePhotosModel", "ofFamily", "(II)I"⟩, 24), (⟨"VillagePhotosModel", "joinsNear", "(II)V"⟩, 24), (⟨"VillagePhotosModel", "readsPicture", "()V"⟩, 24), (⟨"VillagePhotosModel", "pictures", "()I"⟩, 24), (⟨"VillagePhotosModel", "setsCopy", "(III)V"⟩, 24), (⟨"VillagePhotosModel", "readsCopy", "(I)V"⟩, 24), (⟨"VillagePhotosModel", "copyOf", "(II)I"⟩, 24), (⟨"VillagePhotosModel", "leftOf", "(I)I"⟩, 24), (⟨"VillagePhotosModel", "copiesOf", "(II)I"⟩, 24), (⟨"VillagePhotosModel", "allOf", "(I)I"⟩, 24), (⟨"VillagePhotosModel", "holders", "(II)I"⟩, 24), (⟨"VillagePhotosModel", "dangers", "(Z)I"⟩, 24), (⟨"VillagePhotosModel", "isTruly", "(I)Z"⟩, 24)]
theorem lw_r4 : ∀ q ∈ lw_privs_4, lw_okq q := List.forall_mem_cons.mpr ⟨lw_p48, List.forall_mem_cons.mpr ⟨lw_p49, List.forall_mem_cons.mpr ⟨lw_p50, List.forall_mem_cons.mpr ⟨lw_p51, List.forall_mem_cons.mpr ⟨lw_p52, List.forall_mem_cons.mpr ⟨lw_p53, List.forall_mem_cons.mpr ⟨lw_p54, List.forall_mem_cons.mpr ⟨lw_p55, List.forall_mem_cons.mpr ⟨lw_p56, List.forall_mem_cons.mpr ⟨lw_p57, List.forall_mem_cons.mpr ⟨lw_p58, List.forall_mem_cons.mpr ⟨lw_p59, List.forall_mem_cons.mpr ⟨lw_p60, List.forall_mem_cons.mpr ⟨lw_p61, List.forall_mem_cons.mpr ⟨lw_p62, List.forall_mem_cons.mpr ⟨lw_p63, fun _ h => absurd h List.not_mem_nil⟩⟩⟩⟩⟩⟩⟩⟩⟩⟩⟩⟩⟩⟩⟩⟩
theorem lw_p64 : lw_okq (⟨"VillagePhotosModel", "pledgeOf", "(I)I"⟩, 24) := ⟨⟨by decide +kernel, by decide +kernel⟩, List.mem_of_getElem? (i := 967) (by decide +kernel), List.mem_of_getElem? (i := 1252) (by decide +kernel), List.mem_of_getElem? (i := 1253) (by decide +kernel)⟩
theorem lw_p65 : lw_okq (⟨"VillagePhotosModel", "isInDanger", "(I)Z"⟩, 24) := ⟨⟨by decide +kernel, by decide +kernel⟩, List.mem_of_getElem? (i := 967) (by decide +kernel), List.mem_of_getElem? (i := 1256) (by decide +kernel), List.mem_of_getElem? (i := 1257) (by decide +kernel)⟩
theorem lw_p66 : lw_okq (⟨"VillagePhotosModel", "pairs", "()I"⟩, 24) := ⟨⟨by decide +kernel, by decide +kernel⟩, List.mem_of_getElem? (i := 967) (by decide +kernel), List.mem_of_getElem? (i := 1260) (by decide +kernel), List.mem_of_getElem? (i := 1261) (by decide +kernel)⟩
theorem lw_p67 : lw_okq (⟨"VillagePhotosModel", "isFamily", "(I)Z"⟩, 24) := ⟨⟨by decide +kernel, by decide +kernel⟩, List.mem_of_getElem? (i := 967) (by decide +kernel), List.mem_of_getElem? (i := 1268) (by decide +kernel), List.mem_of_getElem? (i := 1269) (by decide +kernel)⟩
theorem lw_p68 : lw_okq (⟨"VillagePhotosModel", "trustOf", "(I)I"⟩, 24) := ⟨⟨by decide +kernel, by decide +kernel⟩, List.mem_of_getElem? (i := 967) (by decide +kernel), List.mem_of_getElem? (i := 1272) (by decide +kernel), List.mem_of_getElem? (i := 1273) (by decide +kernel)⟩
theorem lw_p69 : lw_okq (⟨"VillagePhotosModel", "isPicture", "(I)Z"⟩, 24) := ⟨⟨by decide +kernel, by decide +kernel⟩, List.mem_of_getElem? (i := 967) (by decide +kernel), List.mem_of_getElem? (i := 1280) (by decide +kernel), List.mem_of_getElem? (i := 1281) (by decide +kernel)⟩
theorem lw_p70 : lw_okq (⟨"VillagePhotosModel", "areBoth", "(II)Z"⟩, 24) := ⟨⟨by decide +kernel, by decide +kernel⟩, List.mem_of_getElem? (i := 967) (by decide +kernel), List.mem_of_getElem? (i := 1288) (by decide +kernel), List.mem_of_getElem? (i := 1289) (by decide +kernel)⟩
theorem lw_p71 : lw_okq (⟨"VillagePhotosModel", "rounds", "()I"⟩, 24) := ⟨⟨by decide +kernel, by decide +kernel⟩, List.mem_of_getElem? (i := 967) (by decide +kernel), List.mem_of_getElem? (i := 1309) (by decide +kernel), List.mem_of_getElem? (i := 1310) (by decide +kernel)⟩
theorem lw_p72 : lw_okq (⟨"VillagePhotosModel", "asks", "(III)Z"⟩, 24) := ⟨⟨by decide +kernel, by decide +kernel⟩, List.mem_of_getElem? (i := 967) (by decide +kernel), List.mem_of_getElem? (i := 1317) (by decide +kernel), List.mem_of_getElem? (i := 1318) (by decide +kernel)⟩
theorem lw_p73 : lw_okq (⟨"VillagePhotosModel", "sourcesOf", "(II)I"⟩, 24) := ⟨⟨by decide +kernel, by decide +kernel⟩, List.mem_of_getElem? (i := 967) (by decide +kernel), List.mem_of_getElem? (i := 1329) (by decide +kernel), List.mem_of_getElem? (i := 1330) (by decide +kernel)⟩
theorem lw_p74 : lw_okq (⟨"VillagePhotosModel", "gets", "(II)I"⟩, 24) := ⟨⟨by decide +kernel, by decide +kernel⟩, List.mem_of_getElem? (i := 967) (by decide +kernel), List.mem_of_getElem? (i := 1337) (by decide +kernel), List.mem_of_getElem? (i := 1338) (by decide +kernel)⟩
theorem lw_p75 : lw_okq (⟨"VillagePhotosModel", "triesWaves", "()V"⟩, 24) := ⟨⟨by decide +kernel, by decide +kernel⟩, List.mem_of_getElem? (i := 967) (by decide +kernel), List.mem_of_getElem? (i := 1345) (by decide +kernel), List.mem_of_getElem? (i := 1346) (by decide +kernel)⟩
theorem lw_p76 : lw_okq (⟨"VillagePhotosModel", "waves1", "()I"⟩, 24) := ⟨⟨by decide +kernel, by decide +kernel⟩, List.mem_of_getElem? (i := 967) (by decide +kernel), List.mem_of_getElem? (i := 1349) (by decide +kernel), List.mem_of_getElem? (i := 1350) (by decide +kernel)⟩
theorem lw_p77 : lw_okq (⟨"VillagePhotosModel", "canRepair", "(II)Z"⟩, 24) := ⟨⟨by decide +kernel, by decide +kernel⟩, List.mem_of_getElem? (i := 967) (by decide +kernel), List.mem_of_getElem? (i := 1353) (by decide +kernel), List.mem_of_getElem? (i := 1354) (by decide +kernel)⟩
theorem lw_p78 : lw_okq (⟨"VillagePhotosModel", "dependsOn", "(I)I"⟩, 24) := ⟨⟨by decide +kernel, by decide +kernel⟩, List.mem_of_getElem? (i := 967) (by decide +kernel), List.mem_of_getElem? (i := 1365) (by decide +kernel), List.mem_of_getElem? (i := 1366) (by decide +kernel)⟩
theorem lw_p79 : lw_okq (⟨"VillagePhotosModel", "spreads", "()I"⟩, 24) := ⟨⟨by decide +kernel, by decide +kernel⟩, List.mem_of_getElem? (i := 967) (by decide +kernel), List.mem_of_getElem? (i := 1381) (by decide +kernel), List.mem_of_getElem? (i := 1382) (by decide +kernel)⟩
def lw_privs_5 : List (MethodName × Nat) := [(⟨"VillagePhotosModel", "pledgeOf", "(I)I"⟩, 24), (⟨"VillagePhotosModel", "isInDanger", "(I)Z"⟩, 24), (⟨"VillagePhotosModel", "pairs", "()I"⟩, 24), (⟨"VillagePhotosModel", "isFamily", "(I)Z"⟩, 24), (⟨"VillagePhotosModel", "trustOf", "(I)I"⟩, 24), (⟨"VillagePhotosModel", "isPicture", "(I)Z"⟩, 24), (⟨"VillagePhotosModel", "areBoth", "(II)Z"⟩, 24), (⟨"VillagePhotosModel", "rounds", "()I"⟩, 24), (⟨"VillagePhotosModel", "asks", "(III)Z"⟩, 24), (⟨"VillagePhotosModel", "sourcesOf", "(II)I"⟩, 24), (⟨"VillagePhotosModel", "gets", "(II)I"⟩, 24), (⟨"VillagePhotosModel", "triesWaves", "()V"⟩, 24), (⟨"VillagePhotosModel", "waves1", "()I"⟩, 24), (⟨"VillagePhotosModel", "canRepair", "(II)Z"⟩, 24), (⟨"VillagePhotosModel", "dependsOn", "(I)I"⟩, 24), (⟨"VillagePhotosModel", "spreads", "()I"⟩, 24)]
theorem lw_r5 : ∀ q ∈ lw_privs_5, lw_okq q := List.forall_mem_cons.mpr ⟨lw_p64, List.forall_mem_cons.mpr ⟨lw_p65, List.forall_mem_cons.mpr ⟨lw_p66, List.forall_mem_cons.mpr ⟨lw_p67, List.forall_mem_cons.mpr ⟨lw_p68, List.forall_mem_cons.mpr ⟨lw_p69, List.forall_mem_cons.mpr ⟨lw_p70, List.forall_mem_cons.mpr ⟨lw_p71, List.forall_mem_cons.mpr ⟨lw_p72, List.forall_mem_cons.mpr ⟨lw_p73, List.forall_mem_cons.mpr ⟨lw_p74, List.forall_mem_cons.mpr ⟨lw_p75, List.forall_mem_cons.mpr ⟨lw_p76, List.forall_mem_cons.mpr ⟨lw_p77, List.forall_mem_cons.mpr ⟨lw_p78, List.forall_mem_cons.mpr ⟨lw_p79, fun _ h => absurd h List.not_mem_nil⟩⟩⟩⟩⟩⟩⟩⟩⟩⟩⟩⟩⟩⟩⟩⟩
theorem lw_p80 : lw_okq (⟨"VillagePhotosModel", "nextFor", "(I)I"⟩, 24) := ⟨⟨by decide +kernel, by decide +kernel⟩, List.mem_of_getElem? (i := 967) (by decide +kernel), List.mem_of_getElem? (i := 1385) (by decide +kernel), List.mem_of_getElem? (i := 1386) (by decide +kernel)⟩
theorem lw_p81 : lw_okq (⟨"VillagePhotosModel", "isAhead", "(II)Z"⟩, 24) := ⟨⟨by decide +kernel, by decide +kernel⟩, List.mem_of_getElem? (i := 967) (by decide +kernel), List.mem_of_getElem? (i := 1389) (by decide +kernel), List.mem_of_getElem? (i := 1390) (by decide +kernel)⟩
theorem lw_p82 : lw_okq (⟨"VillagePhotosModel", "dangersWith", "(II)I"⟩, 24) := ⟨⟨by decide +kernel, by decide +kernel⟩, List.mem_of_getElem? (i := 967) (by decide +kernel), List.mem_of_getElem? (i := 1397) (by decide +kernel), List.mem_of_getElem? (i := 1398) (by decide +kernel)⟩
theorem lw_p83 : lw_okq (⟨"VillagePhotosModel", "says", "(I)V"⟩, 24) := ⟨⟨by decide +kernel, by decide +kernel⟩, List.mem_of_getElem? (i := 967) (by decide +kernel), List.mem_of_getElem? (i := 1452) (by decide +kernel), List.mem_of_getElem? (i := 1453) (by decide +kernel)⟩
theorem lw_p84 : lw_okq (⟨"VillagePhotosModel", "saysName", "(I)V"⟩, 24) := ⟨⟨by decide +kernel, by decide +kernel⟩, List.mem_of_getElem? (i := 967) (by decide +kernel), List.mem_of_getElem? (i := 1456) (by decide +kernel), List.mem_of_getElem? (i := 1457) (by decide +kernel)⟩
def lw_privs_6 : List (MethodName × Nat) := [(⟨"VillagePhotosModel", "nextFor", "(I)I"⟩, 24), (⟨"VillagePhotosModel", "isAhead", "(II)Z"⟩, 24), (⟨"VillagePhotosModel", "dangersWith", "(II)I"⟩, 24), (⟨"VillagePhotosModel", "says", "(I)V"⟩, 24), (⟨"VillagePhotosModel", "saysName", "(I)V"⟩, 24)]
theorem lw_r6 : ∀ q ∈ lw_privs_6, lw_okq q := List.forall_mem_cons.mpr ⟨lw_p80, List.forall_mem_cons.mpr ⟨lw_p81, List.forall_mem_cons.mpr ⟨lw_p82, List.forall_mem_cons.mpr ⟨lw_p83, List.forall_mem_cons.mpr ⟨lw_p84, fun _ h => absurd h List.not_mem_nil⟩⟩⟩⟩⟩
def lw_privs : List (MethodName × Nat) := lw_privs_1 ++ (lw_privs_2 ++ (lw_privs_3 ++ (lw_privs_4 ++ (lw_privs_5 ++ (lw_privs_6)))))
def lw_tbl : List Cond := k2_sels lw_privs ++ tables_1
theorem lw_privs_ok : ∀ q ∈ lw_privs, lw_okq q := by
  show ∀ q ∈ lw_privs_1 ++ (lw_privs_2 ++ (lw_privs_3 ++ (lw_privs_4 ++ (lw_privs_5 ++ (lw_privs_6))))), lw_okq q
  exact List.forall_mem_append.mpr ⟨lw_r1, List.forall_mem_append.mpr ⟨lw_r2, List.forall_mem_append.mpr ⟨lw_r3, List.forall_mem_append.mpr ⟨lw_r4, List.forall_mem_append.mpr ⟨lw_r5, lw_r6⟩⟩⟩⟩⟩
/-- the streams that the claim lets the run draw from -/
abbrev lw_cs : List Choice := [Jvm.Choice.named "NaN.bits"]
theorem lw_bits : nanBits ∈ lw_cs := by first | decide | exact List.mem_cons_self | simp [lw_cs, nanBits]
-- ===== end of PART A; then your names; then what follows =====
/-! ===== BEGIN words of one list among another's, by their places ===== -/
theorem goodIn_r {big : List Cond} (ws : List Cond) (ps : List Nat) (hp : ws = ps.filterMap (fun i => big[i]?)) (h : ws.all goodWord = true) : GoodIn big ws := by
  intro w hw
  have h1 := List.all_eq_true.mp h w hw
  rw [hp] at hw
  obtain ⟨i, -, hi⟩ := List.mem_filterMap.mp hw
  have hm : w ∈ big := by first | exact List.mem_of_getElem? hi | exact List.getElem?_mem hi
  exact ⟨hm, good_of_word h1⟩
theorem goodIn_app {big a b : List Cond} (ha : GoodIn big a) (hb : GoodIn big b) : GoodIn big (a ++ b) := fun w h => (List.mem_append.mp h).elim (ha w) (hb w)
theorem goodIn_ca {big a b : List Cond} {c : Cond} (ha : GoodIn big (c :: a)) (hb : GoodIn big b) : GoodIn big (c :: (a ++ b)) := fun w h => (List.mem_cons.mp h).elim (fun e => ha w (List.mem_cons.mpr (Or.inl e))) (fun h => (List.mem_append.mp h).elim (fun h => ha w (List.mem_cons.mpr (Or.inr h))) (hb w))
theorem goodIn_sub {big ws : List Cond} (hm : ∀ w ∈ ws, w ∈ big) (h : ws.all goodWord = true) : GoodIn big ws := fun w hw => ⟨hm w hw, good_of_word (List.all_eq_true.mp h w hw)⟩
/-! ===== END ===== -/

/-! ===== BEGIN exceptions that leave a method, and their catching by the caller (launches without stack traces) ===== -/
section VXA
/-! The laws vx_back, vx_callV, vx_callS, vx_callSW, vx_throw0, vx_throwS follow proofs of the library, with one case more: JvmDerived/Free/Laws.lean (Back.of_free), Shelf42/LK1.lean (callV, callS), Shelf/KitTraced.lean (throwNew0V, throwNewS). -/
/-- where a method has thrown q: the class by its name, the cell, what was written, the world -/
def vx_T (XC : String → State → State → Prop) (st : State) (q : Addr) (t : State) (mc ms : Nat) (free : Addr → Prop) : Prop :=
  ∃ (E : String) (ce : Cell) (L : List Loc), XC E st t ∧ t.heap[q]? = some ce ∧ ce.vm = .none ∧ st.vm.findClass E = some ce.cls ∧ st.WarmedH t.vm ∧ st.sameButNew ({ t with vm := st.vm } : State) L mc ms ∧ ∀ z ∈ L, free z.base
def vx_Q (Qc : Array Value → State → Outcome → State → Prop) (XC : String → State → State → Prop) (mc ms : Nat) (free : Addr → Prop) : Array Value → State → Outcome → State → Prop := fun a st o t =>
  (Qc a st o t ∧ ∃ L, FrameEnd st o t L mc ms ∧ ∀ q ∈ L, free q.base) ∨ ∃ q, o = .threw q ∧ vx_T XC st q t mc ms free
/-- a callee that returns or throws -/
def vx_Met (l : Launch) (y : MethodName) (ws : List Cond) (rm : Room) (Pc : Array Value → State → Prop) (Qc : Array Value → State → Outcome → State → Prop) (XC : String → State → State → Prop) (mc ms : Nat) (free : Addr → Prop) : Prop :=
  MetFree l y (headSpec ws rm) Pc (fun _ _ _ _ _ => True) (vx_Q Qc XC mc ms free)
def vx_Post (XC : String → State → State → Prop) (mc ms : Nat) (free : Addr → Prop) : Pt → Array Value → Addr → Pt → Prop := fun A a q B =>
  ∃ (g : JFrame) (mk : MethodId) (t : State) (L : List Loc) (E : String) (ce : Cell), B.U.heap = t.heap ∧ B.U.vm = t.vm ∧ XC E (A.U.calling g mk a) t ∧ t.heap[q]? = some ce ∧ ce.vm = .none ∧ A.U.vm.findClass E = some ce.cls ∧ B.locs = A.locs ++ L ∧ (∀ z ∈ L, free z.base) ∧ B.cells = A.cells + mc ∧ B.slots = A.slots + ms
def vx_Back (l : Launch) (R : Room) (p : Program) (e : Env) (below : List Frame) (s : State) (sargs : Array Value) (y : MethodName) (len W9 : Nat)
    (Pre : Pt → Array Value → Prop) (Post : Pt → Array Value → Option Value → Pt → Prop) (PostX : Pt → Array Value → Addr → Pt → Prop) : Prop :=
  ∀ (m : MethodId) (meth : Method) (c : Code) (A : Pt) (g : JFrame) (ig : Instr) (mk : MethodId) (a : Array Value),
    Stand p l e R s m sargs below meth c A.U A.locs A.cells A.slots → g.method = m → g.locals.size = c.maxLocals → decode c.code g.pc = .ok (ig, len) →
    2 * g.monitorRoom + (g.stack.map fun v => v.category).sum ≤ W9 → A.U.methodNamed? y = some mk → Pre A a →
    (∃ (v : Option Value) (B : Pt), Stand p l e R s m sargs below meth c B.U B.locs B.cells B.slots ∧ Post A a v B ∧
      Steps p.tables e below (doInvoke e (A.U.setTop g) [] mk a).1 (B.U.setTop { g with pc := g.pc + len, stack := v.toList ++ g.stack })) ∨
    (∃ (q : Addr) (B : Pt), Stand p l e R s m sargs below meth c B.U B.locs B.cells B.slots ∧ PostX A a q B ∧
      Steps p.tables e below (doInvoke e (A.U.setTop g) [] mk a).1 ((B.U.setTop g).pushFrame (.throwing q)))
section Payer
variable {l : Launch} {R : Room} {p : Program} {e : Env} {below : List Frame} {s : State} {sargs : Array Value} {y : MethodName} {len W9 : Nat}
theorem vx_back {ws : List Cond} {rm : Room} {Pc : Array Value → State → Prop} {Qc : Array Value → State → Outcome → State → Prop} {XC : String → State → State → Prop} {mc ms : Nat} {free : Addr → Prop} {bytes : ByteArray} {maxL : Nat} {ret : Option FieldType}
    (hM : vx_Met l y ws rm Pc Qc XC mc ms free) (hblind : FrameBlind Pc) (hrc : rm.cells = mc) (hrs : rm.slots = ms)
    (hframes : rm.frames + 1 ≤ R.frames) (hlocals : W9 + (maxL + 11) + rm.locals ≤ R.locals)
    (hws : ∀ w ∈ ws, ∀ a' U, s.WarmedH U.vm → w.before a' U = true) (hcode : Cond.code y bytes maxL ret ∈ ws) (hinit : ∀ a' U, s.WarmedH U.vm → (Cond.initialized y.cls).before a' U = true) :
    vx_Back l R p e below s sargs y len W9 (PreOf R mc ms Pc) (PostOf Qc mc ms free) (vx_Post XC mc ms free) := by
  intro m meth c A g ig mk a X hg hsize hdg hW hn hp
  have h1 : (headSpec ws rm).pre.before a A.U = true := atoms_intro fun w hw => hws w hw _ _ X.warmed
  have h2 : (Cond.code y bytes maxL ret).before a A.U = true := hws _ hcode _ _ X.warmed
  have h3 : (Cond.initialized y.cls).before a A.U = true := hinit _ _ X.warmed
  have h4 : A.cells + (headSpec ws rm).room.cells ≤ R.cells := by rw [show (headSpec ws rm).room.cells = mc from hrc]; exact hp.1
  have h5 : A.slots + (headSpec ws rm).room.slots ≤ R.slots := by rw [show (headSpec ws rm).room.slots = ms from hrs]; exact hp.2.1
  have hPc : Pc a (A.U.calling g mk a) := hblind _ _ _ _ hp.2.2
  obtain ⟨U, Ls, c0, s0⟩ := A
  dsimp only [Pt.U, Pt.locs, Pt.cells, Pt.slots] at h1 h2 h3 h4 h5 X hn hPc ⊢
  obtain ⟨methY, cY, hmY, hcY, -, hlY, -, -, -, -⟩ := Cond.code_spec hn h2
  obtain ⟨kY, hkY, -⟩ := className_of_methodNamed hn
  have hinitY : kY.init = .initialized := Cond.initialized_spec (findClass_of_methodNamed hn) hkY h3
  have h : At U g.method c below := by rw [hg]; exact X.here
  have hlocals9 : W9 + (maxL + 11) + (headSpec ws rm).room.locals ≤ R.locals := hlocals
  have happ : (headSpec ws rm).appliesLoose y e.platform (U.calling g mk a) = true :=
    Spec.appliesLoose_calling (g := g) h hdg hn hkY hinitY
      (X.room_calling (g := g) (R' := (headSpec ws rm).room) hsize hmY hcY hframes (by rw [hlY]; omega) h4 h5) h1
  obtain ⟨mid, hmid⟩ := h.above
  have hfr : (U.setTop g).frames = (.java g :: mid) ++ below := by rw [State.frames_setTop' g h.top, hmid]; rfl
  obtain ⟨o, s₂, hsteps, -, hend, hq⟩ := Steps.callFree hM p X.admits X.cas X.clock (acts := []) hfr happ hPc trivial
  have hq' : vx_Q Qc XC mc ms free a (U.calling g mk a) o s₂ := hq
  rw [State.frames_setTop' g h.top] at hend
  obtain ⟨g₀, hg0⟩ := Option.isSome_iff_exists.mp h.top
  obtain ⟨r, hr⟩ := State.topJava?_eq_some.mp hg0
  have hr' : (({ U with heap := s₂.heap, slotsUsed := s₂.slotsUsed } : State).setVm s₂.vm).frames = .java g₀ :: r := hr
  rcases hq' with ⟨hqc, L, hfe, hL⟩ | ⟨q, rfl, E, ce, L, hx, hce, hcv, hcl, hW₂, hsm, hL⟩
  · obtain ⟨⟨v, rfl⟩, hW₂, e2, q2, q3, q4, q5, q6⟩ := id hfe
    have e3 : s₂ = ({ (U.calling g mk a).setFrames s₂.frames with heap := s₂.heap, slotsUsed := s₂.slotsUsed } : State).setVm s₂.vm := by
      have : s₂ = ({ s₂ with vm := (U.calling g mk a).vm } : State).setVm s₂.vm := rfl
      rw [e2] at this
      exact this
    obtain ⟨c₂, i₂, len₂, hc₂, hd₂, hf₂⟩ := hend
    have hW' : U.WarmedH s₂.vm := hW₂
    have hcc : c₂ = c := by
      have h1 : s₂.code? g.method = U.code? g.method := by
        rw [State.code?_eq, State.code?_eq, hW'.alike.method?]
      exact Option.some.inj (hc₂.symm.trans (h1.trans h.code))
    subst hcc
    have hlen : len₂ = len := by rw [hdg] at hd₂; cases hd₂; rfl
    subst hlen
    have hs₂ : s₂ = (({ U with heap := s₂.heap, slotsUsed := s₂.slotsUsed } : State).setVm s₂.vm).setTop { g with pc := g.pc + len₂, stack := v.toList ++ g.stack } := by
      refine e3.trans ?_
      rw [hf₂, State.calling_eq h.top, State.setFrames_setFrames, State.setTop_of_frames _ hr', hr]
      rfl
    have hsame : U.sameButNew ({ U with heap := s₂.heap, slotsUsed := s₂.slotsUsed } : State) L mc ms := by
      refine ⟨?_, q2, q3, q4, q5, q6⟩
      obtain ⟨t, ht, -⟩ := State.frames_cons hr
      show ({ U with heap := s₂.heap, slotsUsed := s₂.slotsUsed } : State) = { U.setFrames U.frames with heap := s₂.heap, slotsUsed := s₂.slotsUsed }
      rw [State.setFrames_self ht]
    subst hg
    refine Or.inl ⟨v, ⟨(({ U with heap := s₂.heap, slotsUsed := s₂.slotsUsed } : State).setVm s₂.vm), Ls ++ L, c0 + mc, s0 + ms⟩,
      ⟨X.admits, X.cas, X.clock, X.frames, X.room, X.hears, X.method, X.code, (X.here.setHeapUsed s₂.heap s₂.slotsUsed).setVm hW'.alike, X.tail, State.WarmedH.trans X.warmed hW', X.limits, X.bytes, X.same.trans (hsame.setVm s.vm)⟩,
      ⟨g, mk, s₂, L, rfl, rfl, hqc, rfl, hL, rfl, rfl⟩, ?_⟩
    show Steps p.tables e below _ ((({ U with heap := s₂.heap, slotsUsed := s₂.slotsUsed } : State).setVm s₂.vm).setTop { g with pc := g.pc + len₂, stack := v.toList ++ g.stack })
    rw [← hs₂]
    exact hsteps
  · obtain ⟨e2, q2, q3, q4, q5, q6⟩ := id hsm
    have e3 : s₂ = ({ (U.calling g mk a).setFrames s₂.frames with heap := s₂.heap, slotsUsed := s₂.slotsUsed } : State).setVm s₂.vm := by
      have : s₂ = ({ s₂ with vm := (U.calling g mk a).vm } : State).setVm s₂.vm := rfl
      rw [e2] at this
      exact this
    have hf₂ : s₂.frames = .throwing q :: .java g :: U.frames.tail := hend
    have hW' : U.WarmedH s₂.vm := hW₂
    have hs₂ : s₂ = ((({ U with heap := s₂.heap, slotsUsed := s₂.slotsUsed } : State).setVm s₂.vm).setTop g).pushFrame (.throwing q) := by
      refine e3.trans ?_
      rw [hf₂, State.calling_eq h.top, State.setFrames_setFrames, State.pushFrame, State.frames_setTop _ hr', State.setTop_of_frames _ hr', State.setFrames_setFrames, hr]
      rfl
    have hsame : U.sameButNew ({ U with heap := s₂.heap, slotsUsed := s₂.slotsUsed } : State) L mc ms := by
      refine ⟨?_, q2, q3, q4, q5, q6⟩
      obtain ⟨t, ht, -⟩ := State.frames_cons hr
      show ({ U with heap := s₂.heap, slotsUsed := s₂.slotsUsed } : State) = { U.setFrames U.frames with heap := s₂.heap, slotsUsed := s₂.slotsUsed }
      rw [State.setFrames_self ht]
    subst hg
    refine Or.inr ⟨q, ⟨(({ U with heap := s₂.heap, slotsUsed := s₂.slotsUsed } : State).setVm s₂.vm), Ls ++ L, c0 + mc, s0 + ms⟩,
      ⟨X.admits, X.cas, X.clock, X.frames, X.room, X.hears, X.method, X.code, (X.here.setHeapUsed s₂.heap s₂.slotsUsed).setVm hW'.alike, X.tail, State.WarmedH.trans X.warmed hW', X.limits, X.bytes, X.same.trans (hsame.setVm s.vm)⟩,
      ⟨g, mk, s₂, L, E, ce, rfl, rfl, hx, hce, hcv, hcl, rfl, hL, rfl, rfl⟩, ?_⟩
    show Steps p.tables e below _ (((({ U with heap := s₂.heap, slotsUsed := s₂.slotsUsed } : State).setVm s₂.vm).setTop g).pushFrame (.throwing q))
    rw [← hs₂]
    exact hsteps
end Payer
section Calls
variable {p : Program} {l : Launch} {e : Env} {R : Room} {s : State} {m : MethodId} {args : Array Value} {below : List Frame} {meth : Method} {c : Code} {T : State} {locs : List Loc} {cells slots : Nat}
theorem vx_callV (X : Stand p l e R s m args below meth c T locs cells slots) (hexec : p.tables.exec = Jvm.exec) {own C : String} {index : Nat} {y : MethodName} {bytes : ByteArray} {maxL : Nat} {ret : Option FieldType}
    (hown : s.vm.findClass own = some m.cls) (hlink : (Cond.methodLink own index y).before args s = true) (hinst : (Cond.instanceMethod y).before args s = true) (hsel : (Cond.selects C y y).before args s = true)
    (hcode : (Cond.code y bytes maxL ret).before args s = true) (hy : y.cls ≠ "java/lang/invoke/MethodHandle" ∧ y.cls ≠ "java/lang/invoke/VarHandle")
    {W9 : Nat} {Pre : Pt → Array Value → Prop} {Post : Pt → Array Value → Option Value → Pt → Prop} {PostX : Pt → Array Value → Addr → Pt → Prop} (hK : vx_Back l R p e below s args y 3 W9 Pre Post PostX)
    {b : Addr} {cellB : Cell} (hcell : T.heap[b]? = some cellB) (hobj : cellB.vm.isStatics = false) (hcls : s.vm.findClass C = some cellB.cls)
    {g : JFrame} (hg : g.method = m) (hsize : g.locals.size = c.maxLocals) {argsL rest : List Value} (hlen : ∀ sig, parseMethodDescriptor y.desc = some sig → argsL.length = sig.parameters.length)
    (hstack : g.stack = argsL.reverse ++ .ref b :: rest) (hW : 2 * g.monitorRoom + (rest.map fun v => v.category).sum ≤ W9) (hdg : decode c.code g.pc = .ok (.invokevirtual index, 3))
    (hpre : ∀ vm₁, s.WarmedH vm₁ → Pre ⟨T.setVm vm₁, locs, cells, slots⟩ (Value.ref b :: argsL).toArray) :
    (∃ (v : Option Value) (vm₁ : Vm) (B : Pt), s.WarmedH vm₁ ∧ Stand p l e R s m args below meth c B.U B.locs B.cells B.slots ∧ Post ⟨T.setVm vm₁, locs, cells, slots⟩ (Value.ref b :: argsL).toArray v B ∧
      ∀ target, Steps p.tables e below (B.U.setTop { g with pc := g.pc + 3, stack := v.toList ++ rest }) target → Steps p.tables e below (T.setTop g) target) ∨
    (∃ (q : Addr) (vm₁ : Vm) (B : Pt), s.WarmedH vm₁ ∧ Stand p l e R s m args below meth c B.U B.locs B.cells B.slots ∧ PostX ⟨T.setVm vm₁, locs, cells, slots⟩ (Value.ref b :: argsL).toArray q B ∧
      Steps p.tables e below (T.setTop g) ((B.U.setTop { g with stack := rest }).pushFrame (.throwing q))) := by
  obtain ⟨mk, methM, hnamed, hmethM, hstM, habM⟩ := Cond.instanceMethod_spec hinst
  obtain ⟨methM', cM, hmethM', -, -, -, -, -, -, hsigM⟩ := Cond.code_spec hnamed hcode
  cases hmethM.symm.trans hmethM'
  obtain ⟨c2, r2, m2, q1, q2, q3, q4, kP, hkP, hkPi⟩ := Cond.selects_spec hsel
  cases hcls.symm.trans q1
  cases (State.methodFound?_of_named hnamed hy).symm.trans q2
  cases hnamed.symm.trans q3
  have hselP : selectMethod e.platform s.vm cellB.cls mk = .method mk := by rw [Launch.admits_selectMethod X.admits]; exact q4
  obtain ⟨vm₁, X₁, hstep₁⟩ := X.invokevirtual hexec hown hlink hnamed hmethM hstM hkP hkPi hy (a := b) (cell := cellB) hcell
    (fun z h => by rw [h] at hobj; cases hobj) hselP hmethM habM hkP hkPi (g := g) hg (argsL := argsL) (rest := rest) (hlen _ hsigM) hstack hdg
  rcases hK m meth c ⟨T.setVm vm₁, locs, cells, slots⟩ { g with stack := rest } (.invokevirtual index) mk (Value.ref b :: argsL).toArray X₁ hg hsize hdg hW (X₁.named hnamed) (hpre vm₁ X₁.warmed) with ⟨v, B, X', hpost, hsteps⟩ | ⟨q, B, X', hpost, hsteps⟩
  · exact Or.inl ⟨v, vm₁, B, X₁.warmed, X', hpost, fun target h => hstep₁ _ fun acts => by rw [doInvoke_state]; exact hsteps.trans h⟩
  · exact Or.inr ⟨q, vm₁, B, X₁.warmed, X', hpost, hstep₁ _ fun acts => by rw [doInvoke_state]; exact hsteps⟩
theorem vx_callS (X : Stand p l e R s m args below meth c T locs cells slots) (hexec : p.tables.exec = Jvm.exec) {own : String} {index : Nat} {y : MethodName} {bytes : ByteArray} {maxL : Nat} {ret : Option FieldType}
    (hown : s.vm.findClass own = some m.cls) (hlink : (Cond.methodLink own index y).before args s = true) (hstat : (Cond.static y).before args s = true) (hinit : (Cond.initialized y.cls).before args s = true)
    (hcode : (Cond.code y bytes maxL ret).before args s = true) (hy : y.cls ≠ "java/lang/invoke/MethodHandle" ∧ y.cls ≠ "java/lang/invoke/VarHandle")
    {W9 : Nat} {Pre : Pt → Array Value → Prop} {Post : Pt → Array Value → Option Value → Pt → Prop} {PostX : Pt → Array Value → Addr → Pt → Prop} (hK : vx_Back l R p e below s args y 3 W9 Pre Post PostX)
    {g : JFrame} (hg : g.method = m) (hsize : g.locals.size = c.maxLocals) {argsL rest : List Value} (hlen : ∀ sig, parseMethodDescriptor y.desc = some sig → argsL.length = sig.parameters.length)
    (hstack : g.stack = argsL.reverse ++ rest) (hW : 2 * g.monitorRoom + (rest.map fun v => v.category).sum ≤ W9) (hdg : decode c.code g.pc = .ok (.invokestatic index, 3))
    (hpre : ∀ vm₁, s.WarmedH vm₁ → Pre ⟨T.setVm vm₁, locs, cells, slots⟩ argsL.toArray) :
    (∃ (v : Option Value) (vm₁ : Vm) (B : Pt), s.WarmedH vm₁ ∧ Stand p l e R s m args below meth c B.U B.locs B.cells B.slots ∧ Post ⟨T.setVm vm₁, locs, cells, slots⟩ argsL.toArray v B ∧
      ∀ target, Steps p.tables e below (B.U.setTop { g with pc := g.pc + 3, stack := v.toList ++ rest }) target → Steps p.tables e below (T.setTop g) target) ∨
    (∃ (q : Addr) (vm₁ : Vm) (B : Pt), s.WarmedH vm₁ ∧ Stand p l e R s m args below meth c B.U B.locs B.cells B.slots ∧ PostX ⟨T.setVm vm₁, locs, cells, slots⟩ argsL.toArray q B ∧
      Steps p.tables e below (T.setTop g) ((B.U.setTop { g with stack := rest }).pushFrame (.throwing q))) := by
  obtain ⟨mk, hnamed⟩ := Cond.code_named hcode
  obtain ⟨methM, cM, hmethM, -, -, -, -, -, -, hsigM⟩ := Cond.code_spec hnamed hcode
  have hstatic : methM.isStatic = true := Cond.static_spec hnamed hmethM hstat
  obtain ⟨kP, hkP, -⟩ := className_of_methodNamed hnamed
  have hinitP : kP.init = .initialized := Cond.initialized_spec (findClass_of_methodNamed hnamed) hkP hinit
  obtain ⟨vm₁, X₁, hstep₁⟩ := X.invokestatic hexec hown hlink hnamed hmethM hstatic hkP hinitP hy (g := g) hg (argsL := argsL) (rest := rest) (hlen _ hsigM) hstack hdg
  rcases hK m meth c ⟨T.setVm vm₁, locs, cells, slots⟩ { g with stack := rest } (.invokestatic index) mk argsL.toArray X₁ hg hsize hdg hW (X₁.named hnamed) (hpre vm₁ X₁.warmed) with ⟨v, B, X', hpost, hsteps⟩ | ⟨q, B, X', hpost, hsteps⟩
  · exact Or.inl ⟨v, vm₁, B, X₁.warmed, X', hpost, fun target h => hstep₁ _ fun acts => by rw [doInvoke_state]; exact hsteps.trans h⟩
  · exact Or.inr ⟨q, vm₁, B, X₁.warmed, X', hpost, hstep₁ _ fun acts => by rw [doInvoke_state]; exact hsteps⟩
end Calls
theorem vx_cls {s : State} {T : State} {vm₁ : Vm} {E : String} {k : ClassId} (hW : s.WarmedH vm₁) (h : (T.setVm vm₁).vm.findClass E = some k) : s.vm.findClass E = some k := by
  have h1 : vm₁.findClass E = some k := h
  rw [hW.alike.findClass] at h1
  exact h1
/-- the method's frame g, with q thrown over it -/
def vx_W (p : Program) (l : Launch) (e : Env) (R : Room) (s : State) (m : MethodId) (args : Array Value) (below : List Frame) (meth : Method) (c : Code) (H : Heap) (locs : List Loc) (cells slots : Nat) (Q : State → Prop) (g : JFrame) (q : Addr) : Prop :=
  ∀ T : State, T.heap = H → Stand p l e R s m args below meth c T locs cells slots → ∃ t, Steps p.tables e below ((T.setTop g).pushFrame (.throwing q)) t ∧ Q t
def vx_Run (p : Program) (l : Launch) (e : Env) (R : Room) (s : State) (m : MethodId) (args : Array Value) (below : List Frame) (meth : Method) (c : Code) (H : Heap) (locs : List Loc) (cells slots mc ms : Nat) (g : JFrame) (rest : List Value) (Qa : State → Outcome → State → Prop) (XC : String → State → State → Prop) (free : Addr → Prop) : Prop :=
  ∀ T : State, T.heap = H → Stand p l e R s m args below meth c T locs cells slots →
    (∃ (v : Option Value) (st₀ t T' : State) (L : List Loc), st₀.heap = H ∧ Stand p l e R s m args below meth c T' (locs ++ L) (cells + mc) (slots + ms) ∧ (∀ q ∈ L, free q.base) ∧ T'.heap = t.heap ∧ T'.vm = t.vm ∧ Qa st₀ (.returned v) t ∧
      Goes p e below T g T' { g with pc := g.pc + 3, stack := v.toList ++ rest }) ∨
    (∃ (q : Addr) (st₀ t T' : State) (L : List Loc) (E : String) (ce : Cell), st₀.heap = H ∧ Stand p l e R s m args below meth c T' (locs ++ L) (cells + mc) (slots + ms) ∧ (∀ z ∈ L, free z.base) ∧ T'.heap = t.heap ∧ T'.vm = t.vm ∧ XC E st₀ t ∧ t.heap[q]? = some ce ∧ ce.vm = .none ∧ s.vm.findClass E = some ce.cls ∧
      Steps p.tables e below (T.setTop g) ((T'.setTop { g with stack := rest }).pushFrame (.throwing q)))
def vx_X {S : Type} (px : S → Prop) (B : String → S → State → Prop) (A : Nat → Prop) : String → State → State → Prop := fun E st t => ∃ u : S, px u ∧ B E u t ∧ va_F A st t
section Runs
variable {p : Program} {l : Launch} {e : Env} {R : Room} {s : State} {m : MethodId} {args : Array Value} {below : List Frame} {meth : Method} {c : Code} {H : Heap} {locs : List Loc} {cells slots : Nat}
variable {y : MethodName} {bytes cc : ByteArray} {maxL nL mc ms n index : Nat} {ret : Option FieldType} {ws : List Cond} {rm : Room} {Pc : Array Value → State → Prop} {Qc : Array Value → State → Outcome → State → Prop} {XC : String → State → State → Prop} {free : Addr → Prop} {Ts : List Cond} {own C : String} {b : Addr} {As rest : List Value} {g : JFrame}
theorem vx_callBack (cb : CallB R s args own index y bytes maxL ret ws rm mc ms n) (hM : vx_Met l y ws rm Pc Qc XC mc ms free) (hbl : FrameBlind Pc) : vx_Back l R p e below s args y 3 8 (PreOf R mc ms Pc) (PostOf Qc mc ms free) (vx_Post XC mc ms free) := by
  obtain ⟨hrc, hrs, hfr, hlo, hws, hcw, -, hini, -⟩ := cb
  exact vx_back (bytes := bytes) (maxL := maxL) (ret := ret) hM hbl hrc hrs hfr hlo hws hcw (fun a' U hW => word_at hW (Or.inl (by first | rfl | simp [Cond.onTables, Cond.keeps, Cond.steady])) hini)
theorem vx_runV (S : CallFix p m c cc nL s args Ts own) (hM : vx_Met l y ws rm Pc Qc XC mc ms free) (cw : CallW R s args own C index y bytes maxL ret ws rm mc ms n) (hp : PreV s H C b Pc As)
    (hg : g.method = m) (hn : As.length = n) (hsize : g.locals.size = nL) (hstack : g.stack = As.reverse ++ .ref b :: rest) (hW : 2 * g.monitorRoom + (rest.map fun v => v.category).sum ≤ 8) (hdg : decode cc g.pc = .ok (.invokevirtual index, 3)) (hf : cells + mc ≤ R.cells ∧ slots + ms ≤ R.slots) :
    vx_Run p l e R s m args below meth c H locs cells slots mc ms g rest (Qc (Value.ref b :: As).toArray) XC free := by
  have hK : vx_Back l R p e below s args y 3 8 (PreOf R mc ms Pc) (PostOf Qc mc ms free) (vx_Post XC mc ms free) := vx_callBack cw.1 hM hp.1
  obtain ⟨⟨-, -, -, -, -, -, hcode, -, hy, hlen, hl⟩, hin, hse⟩ := cw
  obtain ⟨hx, hb, hml, ho, -⟩ := S
  obtain ⟨-, ⟨cellB, hcB, hoB, hclB⟩, hPc⟩ := hp
  intro T hT X
  rcases vx_callV X hx (C := C) (bytes := bytes) (maxL := maxL) (ret := ret) ho hl hin hse hcode hy hK (by rw [hT]; exact hcB) hoB hclB hg (hsize.trans hml.symm) (argsL := As) (rest := rest) (fun sig h => hn.trans (hlen sig h)) hstack hW (by rw [hb]; exact hdg)
    (fun vm₁ hW₁ => ⟨hf.1, hf.2, hPc (T.setVm vm₁) hT hW₁⟩) with ⟨v, vm₁, ⟨U', l2, c2, s2⟩, hW₁, X', ⟨g', mk, t, L, e1, e2, hq, h1, hL, h2, h3⟩, st⟩ | ⟨q, vm₁, ⟨U', l2, c2, s2⟩, hW₁, X', ⟨g', mk, t, L, E, ce, e1, e2, hq, hce, hcv, hcl, h1, hL, h2, h3⟩, st⟩
  · dsimp only [Pt.U, Pt.locs, Pt.cells, Pt.slots] at X' e1 e2 h1 h2 h3 st
    subst h1; subst h2; subst h3
    exact Or.inl ⟨v, (T.setVm vm₁).calling g' mk (Value.ref b :: As).toArray, t, U', L, hT, X', hL, e1, e2, hq, st⟩
  · dsimp only [Pt.U, Pt.locs, Pt.cells, Pt.slots] at X' e1 e2 h1 h2 h3 st hcl
    subst h1; subst h2; subst h3
    exact Or.inr ⟨q, (T.setVm vm₁).calling g' mk (Value.ref b :: As).toArray, t, U', L, E, ce, hT, X', hL, e1, e2, hq, hce, hcv, vx_cls hW₁ hcl, st⟩
theorem vx_runS (S : CallFix p m c cc nL s args Ts own) (hM : vx_Met l y ws rm Pc Qc XC mc ms free) (cw : CallB R s args own index y bytes maxL ret ws rm mc ms n ∧ (Cond.static y).before args s = true) (hp : PreS s H Pc As)
    (hg : g.method = m) (hn : As.length = n) (hsize : g.locals.size = nL) (hstack : g.stack = As.reverse ++ rest) (hW : 2 * g.monitorRoom + (rest.map fun v => v.category).sum ≤ 8) (hdg : decode cc g.pc = .ok (.invokestatic index, 3)) (hf : cells + mc ≤ R.cells ∧ slots + ms ≤ R.slots) :
    vx_Run p l e R s m args below meth c H locs cells slots mc ms g rest (Qc As.toArray) XC free := by
  have hK : vx_Back l R p e below s args y 3 8 (PreOf R mc ms Pc) (PostOf Qc mc ms free) (vx_Post XC mc ms free) := vx_callBack cw.1 hM hp.1
  obtain ⟨⟨-, -, -, -, -, -, hcode, hini, hy, hlen, hl⟩, hstt⟩ := cw
  obtain ⟨hx, hb, hml, ho, -⟩ := S
  intro T hT X
  rcases vx_callS X hx (bytes := bytes) (maxL := maxL) (ret := ret) ho hl hstt hini hcode hy hK hg (hsize.trans hml.symm) (argsL := As) (rest := rest) (fun sig h => hn.trans (hlen sig h)) hstack hW (by rw [hb]; exact hdg)
    (fun vm₁ hW₁ => ⟨hf.1, hf.2, hp.2 (T.setVm vm₁) hT hW₁⟩) with ⟨v, vm₁, ⟨U', l2, c2, s2⟩, hW₁, X', ⟨g', mk, t, L, e1, e2, hq, h1, hL, h2, h3⟩, st⟩ | ⟨q, vm₁, ⟨U', l2, c2, s2⟩, hW₁, X', ⟨g', mk, t, L, E, ce, e1, e2, hq, hce, hcv, hcl, h1, hL, h2, h3⟩, st⟩
  · dsimp only [Pt.U, Pt.locs, Pt.cells, Pt.slots] at X' e1 e2 h1 h2 h3 st
    subst h1; subst h2; subst h3
    exact Or.inl ⟨v, (T.setVm vm₁).calling g' mk As.toArray, t, U', L, hT, X', hL, e1, e2, hq, st⟩
  · dsimp only [Pt.U, Pt.locs, Pt.cells, Pt.slots] at X' e1 e2 h1 h2 h3 st hcl
    subst h1; subst h2; subst h3
    exact Or.inr ⟨q, (T.setVm vm₁).calling g' mk As.toArray, t, U', L, E, ce, hT, X', hL, e1, e2, hq, hce, hcv, vx_cls hW₁ hcl, st⟩
end Runs
section Rows
variable {p : Program} {l : Launch} {e : Env} {R : Room} {s : State} {m : MethodId} {args : Array Value} {below : List Frame} {meth : Method} {c : Code} {H : Heap} {locs : List Loc} {cells slots : Nat} {Q : State → Prop}
variable {mc ms : Nat} {free : Addr → Prop} {A0 A1 : Nat → Prop} {H0 : Heap} {a : Array Value} {pc : Nat} {ls : Array Slot} {st0 rest : List Value}
theorem vx_keep {st₀ t T' : State} {L : List Loc} (h0 : st₀.heap = H) (e1 : T'.heap = t.heap) (hS : va_S A0 H0 H locs) (hA : ∀ q, q < H.size → A1 q → A0 q) (hf : ∀ q, free q → A0 q) (hL : ∀ q ∈ L, free q.base) (hF : va_F A1 st₀ t) :
    H.size ≤ T'.heap.size ∧ (∀ q : Nat, q < H.size → ¬ A1 q → T'.heap[q]? = H[q]?) ∧ va_S A0 H0 T'.heap (locs ++ L) := by
  obtain ⟨hz, hk⟩ := hF
  rw [h0] at hz hk
  exact ⟨by rw [e1]; exact hz, fun q h1 h2 => by rw [e1]; exact hk q h1 h2,
    ⟨Nat.le_trans hS.1 (by rw [e1]; exact hz), fun q h1 h2 => by rw [e1, hk q (Nat.lt_of_lt_of_le h1 hS.1) (fun z => h2 (hA q (Nat.lt_of_lt_of_le h1 hS.1) z))]; exact hS.2.1 q h1 h2, fun q hq => by
      rcases List.mem_append.mp hq with h | h
      · exact hS.2.2 q h
      · exact hf _ (hL q h)⟩⟩
theorem vx_calli {S SX : Type} {post : Int32 → S → Prop} {px : SX → Prop} {B : S → State → Prop} {BX : String → SX → State → Prop} {AX : Nat → Prop} (hr : vx_Run p l e R s m args below meth c H locs cells slots mc ms (F0 m pc ls st0) rest (va_Qi post B A1 a) (vx_X px BX AX) free) (hS : va_S A0 H0 H locs) (hA : ∀ q, q < H.size → A1 q → A0 q) (hf : ∀ q, free q → A0 q) (hAX : ∀ q, q < H.size → AX q → A0 q)
    (kx : ∀ (E : String) (ce : Cell) (q9 : Addr) (u : SX) (t : State) (H1 : Heap) (locs1 : List Loc), t.heap = H1 → s.vm.Alike t.vm → px u → BX E u t → H.size ≤ H1.size → (∀ q : Nat, q < H.size → ¬ AX q → H1[q]? = H[q]?) → va_S A0 H0 H1 locs1 → H1[q9]? = some ce → ce.vm = .none → s.vm.findClass E = some ce.cls → vx_W p l e R s m args below meth c H1 locs1 (cells + mc) (slots + ms) Q (F0 m pc ls rest) q9)
    (kk : ∀ (r : Int32) (u : S) (t : State) (H1 : Heap) (locs1 : List Loc), t.heap = H1 → s.vm.Alike t.vm → post r u → B u t → H.size ≤ H1.size → (∀ q : Nat, q < H.size → ¬ A1 q → H1[q]? = H[q]?) → va_S A0 H0 H1 locs1 → W p l e R s m args below meth c H1 locs1 (cells + mc) (slots + ms) Q (F0 m (pc + 3) ls (.int r :: rest))) : W p l e R s m args below meth c H locs cells slots Q (F0 m pc ls st0) := by
  intro T hT X
  rcases hr T hT X with ⟨v, st₀, t, T', L, h0, X', hL, e1, e2, ⟨⟨r, u, hv, hp, hb⟩, hF⟩, st⟩ | ⟨q, st₀, t, T', L, E, ce, h0, X', hL, e1, e2, ⟨u, hp, hb, hF⟩, hce, hcv, hcl, st⟩
  · cases hv
    obtain ⟨k1, k2, k3⟩ := vx_keep h0 e1 hS hA hf hL hF
    obtain ⟨t2, a1, b1⟩ := kk r u t T'.heap (locs ++ L) e1.symm (by rw [← e2]; exact X'.warmed.alike) hp hb k1 k2 k3 T' rfl X'
    exact ⟨t2, st t2 a1, b1⟩
  · obtain ⟨k1, k2, k3⟩ := vx_keep h0 e1 hS hAX hf hL hF
    obtain ⟨t2, a1, b1⟩ := kx E ce q u t T'.heap (locs ++ L) e1.symm (by rw [← e2]; exact X'.warmed.alike) hp hb k1 k2 k3 (by rw [e1]; exact hce) hcv hcl T' rfl X'
    exact ⟨t2, st.trans a1, b1⟩
theorem vx_calll {S SX : Type} {post : Int64 → S → Prop} {px : SX → Prop} {B : S → State → Prop} {BX : String → SX → State → Prop} {AX : Nat → Prop} (hr : vx_Run p l e R s m args below meth c H locs cells slots mc ms (F0 m pc ls st0) rest (va_Ql post B A1 a) (vx_X px BX AX) free) (hS : va_S A0 H0 H locs) (hA : ∀ q, q < H.size → A1 q → A0 q) (hf : ∀ q, free q → A0 q) (hAX : ∀ q, q < H.size → AX q → A0 q)
    (kx : ∀ (E : String) (ce : Cell) (q9 : Addr) (u : SX) (t : State) (H1 : Heap) (locs1 : List Loc), t.heap = H1 → s.vm.Alike t.vm → px u → BX E u t → H.size ≤ H1.size → (∀ q : Nat, q < H.size → ¬ AX q → H1[q]? = H[q]?) → va_S A0 H0 H1 locs1 → H1[q9]? = some ce → ce.vm = .none → s.vm.findClass E = some ce.cls → vx_W p l e R s m args below meth c H1 locs1 (cells + mc) (slots + ms) Q (F0 m pc ls rest) q9)
    (kk : ∀ (r : Int64) (u : S) (t : State) (H1 : Heap) (locs1 : List Loc), t.heap = H1 → s.vm.Alike t.vm → post r u → B u t → H.size ≤ H1.size → (∀ q : Nat, q < H.size → ¬ A1 q → H1[q]? = H[q]?) → va_S A0 H0 H1 locs1 → W p l e R s m args below meth c H1 locs1 (cells + mc) (slots + ms) Q (F0 m (pc + 3) ls (.long r :: rest))) : W p l e R s m args below meth c H locs cells slots Q (F0 m pc ls st0) := by
  intro T hT X
  rcases hr T hT X with ⟨v, st₀, t, T', L, h0, X', hL, e1, e2, ⟨⟨r, u, hv, hp, hb⟩, hF⟩, st⟩ | ⟨q, st₀, t, T', L, E, ce, h0, X', hL, e1, e2, ⟨u, hp, hb, hF⟩, hce, hcv, hcl, st⟩
  · cases hv
    obtain ⟨k1, k2, k3⟩ := vx_keep h0 e1 hS hA hf hL hF
    obtain ⟨t2, a1, b1⟩ := kk r u t T'.heap (locs ++ L) e1.symm (by rw [← e2]; exact X'.warmed.alike) hp hb k1 k2 k3 T' rfl X'
    exact ⟨t2, st t2 a1, b1⟩
  · obtain ⟨k1, k2, k3⟩ := vx_keep h0 e1 hS hAX hf hL hF
    obtain ⟨t2, a1, b1⟩ := kx E ce q u t T'.heap (locs ++ L) e1.symm (by rw [← e2]; exact X'.warmed.alike) hp hb k1 k2 k3 (by rw [e1]; exact hce) hcv hcl T' rfl X'
    exact ⟨t2, st.trans a1, b1⟩
theorem vx_callf {S SX : Type} {post : UInt32 → S → Prop} {px : SX → Prop} {B : S → State → Prop} {BX : String → SX → State → Prop} {AX : Nat → Prop} (hr : vx_Run p l e R s m args below meth c H locs cells slots mc ms (F0 m pc ls st0) rest (va_Qf post B A1 a) (vx_X px BX AX) free) (hS : va_S A0 H0 H locs) (hA : ∀ q, q < H.size → A1 q → A0 q) (hf : ∀ q, free q → A0 q) (hAX : ∀ q, q < H.size → AX q → A0 q)
    (kx : ∀ (E : String) (ce : Cell) (q9 : Addr) (u : SX) (t : State) (H1 : Heap) (locs1 : List Loc), t.heap = H1 → s.vm.Alike t.vm → px u → BX E u t → H.size ≤ H1.size → (∀ q : Nat, q < H.size → ¬ AX q → H1[q]? = H[q]?) → va_S A0 H0 H1 locs1 → H1[q9]? = some ce → ce.vm = .none → s.vm.findClass E = some ce.cls → vx_W p l e R s m args below meth c H1 locs1 (cells + mc) (slots + ms) Q (F0 m pc ls rest) q9)
    (kk : ∀ (r : UInt32) (u : S) (t : State) (H1 : Heap) (locs1 : List Loc), t.heap = H1 → s.vm.Alike t.vm → post r u → B u t → H.size ≤ H1.size → (∀ q : Nat, q < H.size → ¬ A1 q → H1[q]? = H[q]?) → va_S A0 H0 H1 locs1 → W p l e R s m args below meth c H1 locs1 (cells + mc) (slots + ms) Q (F0 m (pc + 3) ls (.float r :: rest))) : W p l e R s m args below meth c H locs cells slots Q (F0 m pc ls st0) := by
  intro T hT X
  rcases hr T hT X with ⟨v, st₀, t, T', L, h0, X', hL, e1, e2, ⟨⟨r, u, hv, hp, hb⟩, hF⟩, st⟩ | ⟨q, st₀, t, T', L, E, ce, h0, X', hL, e1, e2, ⟨u, hp, hb, hF⟩, hce, hcv, hcl, st⟩
  · cases hv
    obtain ⟨k1, k2, k3⟩ := vx_keep h0 e1 hS hA hf hL hF
    obtain ⟨t2, a1, b1⟩ := kk r u t T'.heap (locs ++ L) e1.symm (by rw [← e2]; exact X'.warmed.alike) hp hb k1 k2 k3 T' rfl X'
    exact ⟨t2, st t2 a1, b1⟩
  · obtain ⟨k1, k2, k3⟩ := vx_keep h0 e1 hS hAX hf hL hF
    obtain ⟨t2, a1, b1⟩ := kx E ce q u t T'.heap (locs ++ L) e1.symm (by rw [← e2]; exact X'.warmed.alike) hp hb k1 k2 k3 (by rw [e1]; exact hce) hcv hcl T' rfl X'
    exact ⟨t2, st.trans a1, b1⟩
theorem vx_calld {S SX : Type} {post : UInt64 → S → Prop} {px : SX → Prop} {B : S → State → Prop} {BX : String → SX → State → Prop} {AX : Nat → Prop} (hr : vx_Run p l e R s m args below meth c H locs cells slots mc ms (F0 m pc ls st0) rest (va_Qd post B A1 a) (vx_X px BX AX) free) (hS : va_S A0 H0 H locs) (hA : ∀ q, q < H.size → A1 q → A0 q) (hf : ∀ q, free q → A0 q) (hAX : ∀ q, q < H.size → AX q → A0 q)
    (kx : ∀ (E : String) (ce : Cell) (q9 : Addr) (u : SX) (t : State) (H1 : Heap) (locs1 : List Loc), t.heap = H1 → s.vm.Alike t.vm → px u → BX E u t → H.size ≤ H1.size → (∀ q : Nat, q < H.size → ¬ AX q → H1[q]? = H[q]?) → va_S A0 H0 H1 locs1 → H1[q9]? = some ce → ce.vm = .none → s.vm.findClass E = some ce.cls → vx_W p l e R s m args below meth c H1 locs1 (cells + mc) (slots + ms) Q (F0 m pc ls rest) q9)
    (kk : ∀ (r : UInt64) (u : S) (t : State) (H1 : Heap) (locs1 : List Loc), t.heap = H1 → s.vm.Alike t.vm → post r u → B u t → H.size ≤ H1.size → (∀ q : Nat, q < H.size → ¬ A1 q → H1[q]? = H[q]?) → va_S A0 H0 H1 locs1 → W p l e R s m args below meth c H1 locs1 (cells + mc) (slots + ms) Q (F0 m (pc + 3) ls (.double r :: rest))) : W p l e R s m args below meth c H locs cells slots Q (F0 m pc ls st0) := by
  intro T hT X
  rcases hr T hT X with ⟨v, st₀, t, T', L, h0, X', hL, e1, e2, ⟨⟨r, u, hv, hp, hb⟩, hF⟩, st⟩ | ⟨q, st₀, t, T', L, E, ce, h0, X', hL, e1, e2, ⟨u, hp, hb, hF⟩, hce, hcv, hcl, st⟩
  · cases hv
    obtain ⟨k1, k2, k3⟩ := vx_keep h0 e1 hS hA hf hL hF
    obtain ⟨t2, a1, b1⟩ := kk r u t T'.heap (locs ++ L) e1.symm (by rw [← e2]; exact X'.warmed.alike) hp hb k1 k2 k3 T' rfl X'
    exact ⟨t2, st t2 a1, b1⟩
  · obtain ⟨k1, k2, k3⟩ := vx_keep h0 e1 hS hAX hf hL hF
    obtain ⟨t2, a1, b1⟩ := kx E ce q u t T'.heap (locs ++ L) e1.symm (by rw [← e2]; exact X'.warmed.alike) hp hb k1 k2 k3 (by rw [e1]; exact hce) hcv hcl T' rfl X'
    exact ⟨t2, st.trans a1, b1⟩
theorem vx_callv {S SX : Type} {post : S → Prop} {px : SX → Prop} {B : S → State → Prop} {BX : String → SX → State → Prop} {AX : Nat → Prop} (hr : vx_Run p l e R s m args below meth c H locs cells slots mc ms (F0 m pc ls st0) rest (va_Qv post B A1 a) (vx_X px BX AX) free) (hS : va_S A0 H0 H locs) (hA : ∀ q, q < H.size → A1 q → A0 q) (hf : ∀ q, free q → A0 q) (hAX : ∀ q, q < H.size → AX q → A0 q)
    (kx : ∀ (E : String) (ce : Cell) (q9 : Addr) (u : SX) (t : State) (H1 : Heap) (locs1 : List Loc), t.heap = H1 → s.vm.Alike t.vm → px u → BX E u t → H.size ≤ H1.size → (∀ q : Nat, q < H.size → ¬ AX q → H1[q]? = H[q]?) → va_S A0 H0 H1 locs1 → H1[q9]? = some ce → ce.vm = .none → s.vm.findClass E = some ce.cls → vx_W p l e R s m args below meth c H1 locs1 (cells + mc) (slots + ms) Q (F0 m pc ls rest) q9)
    (kk : ∀ (u : S) (t : State) (H1 : Heap) (locs1 : List Loc), t.heap = H1 → s.vm.Alike t.vm → post u → B u t → H.size ≤ H1.size → (∀ q : Nat, q < H.size → ¬ A1 q → H1[q]? = H[q]?) → va_S A0 H0 H1 locs1 → W p l e R s m args below meth c H1 locs1 (cells + mc) (slots + ms) Q (F0 m (pc + 3) ls (rest))) : W p l e R s m args below meth c H locs cells slots Q (F0 m pc ls st0) := by
  intro T hT X
  rcases hr T hT X with ⟨v, st₀, t, T', L, h0, X', hL, e1, e2, ⟨⟨u, hv, hp, hb⟩, hF⟩, st⟩ | ⟨q, st₀, t, T', L, E, ce, h0, X', hL, e1, e2, ⟨u, hp, hb, hF⟩, hce, hcv, hcl, st⟩
  · cases hv
    obtain ⟨k1, k2, k3⟩ := vx_keep h0 e1 hS hA hf hL hF
    obtain ⟨t2, a1, b1⟩ := kk u t T'.heap (locs ++ L) e1.symm (by rw [← e2]; exact X'.warmed.alike) hp hb k1 k2 k3 T' rfl X'
    exact ⟨t2, st t2 a1, b1⟩
  · obtain ⟨k1, k2, k3⟩ := vx_keep h0 e1 hS hAX hf hL hF
    obtain ⟨t2, a1, b1⟩ := kx E ce q u t T'.heap (locs ++ L) e1.symm (by rw [← e2]; exact X'.warmed.alike) hp hb k1 k2 k3 (by rw [e1]; exact hce) hcv hcl T' rfl X'
    exact ⟨t2, st.trans a1, b1⟩
/-- caught by the row x of this method's table; the rows ahead don't take it -/
theorem vx_catch {own name : String} {E : String} {ce : Cell} {q : Addr} (hown : s.vm.findClass own = some m.cls) (pre : List ExceptionTableEntry) (x : ExceptionTableEntry) (suf : List ExceptionTableEntry) (hsplit : c.exceptionTable.toList = pre ++ x :: suf)
    (hpass : ∀ z ∈ pre, covers z pc = false ∨ (z.catchType ≠ 0 ∧ ∃ nm : String, (Cond.classLink own z.catchType nm).before args s = true ∧ va_Nc E nm s)) (hx : covers x pc = true) (h0 : x.catchType ≠ 0)
    (hlink : (Cond.classLink own x.catchType name).before args s = true) (hcast : (Cond.castable E name).before args s = true) (hcell : H[q]? = some ce) (hv : ce.vm = .none) (hcl : s.vm.findClass E = some ce.cls)
    (kk : W p l e R s m args below meth c H locs cells slots Q (F0 m x.handlerPc ls [.ref q])) : vx_W p l e R s m args below meth c H locs cells slots Q (F0 m pc ls rest) q := by
  intro T hT X
  have hpl : e.platform.magicAccessors = ({} : Platform).magicAccessors := by rw [X.admits.platform]
  obtain ⟨c3, c4, hc3, hc4, hasg⟩ := Cond.castable_spec hcast
  cases Option.some.inj (hc3.symm.trans hcl)
  obtain ⟨c5, hc5, hcl5⟩ := Cond.classLink_spec hown hlink e.platform hpl
  cases Option.some.inj (hc4.symm.trans hc5)
  obtain ⟨vm', X', st⟩ := X.thenCaughtThrough q (g := F0 m pc ls rest) rfl (Steps.refl _) (by rw [hT]; exact hcell) (by rw [hv]; rfl) (by obtain ⟨k9, h9, -⟩ := Vm.findClass_spec hcl; exact ⟨k9, h9⟩) pre x suf hsplit
    (fun z hz => by
      rcases hpass z hz with h | ⟨hz0, nm, hl1, hn1⟩
      · exact Or.inl h
      · obtain ⟨c6, hc6, hcl6⟩ := Cond.classLink_spec hown hl1 e.platform hpl
        obtain ⟨a8, b8, h1, h2, h3⟩ := hn1
        cases Option.some.inj (h1.symm.trans hcl)
        cases Option.some.inj (h2.symm.trans hc6)
        exact Or.inr ⟨hz0, _, hcl6, h3⟩) hx (Or.inr ⟨h0, c4, hcl5, hasg⟩)
  obtain ⟨t, a1, b1⟩ := kk (T.setVm vm') hT X'
  exact ⟨t, st.trans a1, b1⟩
end Rows
section Ends
variable {p : Program} {l : Launch} {e : Env} {R : Room} {s : State} {m : MethodId} {args : Array Value} {below : List Frame} {meth : Method} {c : Code} {H : Heap} {locs : List Loc} {cells slots : Nat} {Q : State → Prop}
variable {mc ms : Nat} {free : Addr → Prop} {A0 A1 : Nat → Prop} {H0 : Heap} {a : Array Value} {ls : Array Slot} {st0 rest : List Value}
variable {Qc : Array Value → State → Outcome → State → Prop} {XC : String → State → State → Prop}
/-- what a body that may throw owes at its end -/
def vx_MQ (below : List Frame) (Qc : Array Value → State → Outcome → State → Prop) (XC : String → State → State → Prop) (a : Array Value) (s : State) (mc ms : Nat) (free : Addr → Prop) : State → Prop := fun t =>
  ∃ o, t.status = .running ∧ Ended t below o ∧ vx_Q Qc XC mc ms free a s o t
theorem vx_ret {g : JFrame} {mc ms : Nat} (k : W p l e R s m args below meth c H locs cells slots (MQ below Qc args s mc ms free) g) : W p l e R s m args below meth c H locs cells slots (vx_MQ below Qc XC args s mc ms free) g := by
  intro T hT X
  obtain ⟨t, a1, o, b1, b2, b3, b4⟩ := k T hT X
  exact ⟨t, a1, o, b1, b2, Or.inl ⟨b3, b4⟩⟩
/-- not caught here: it goes on to the caller -/
theorem vx_widen {g : JFrame} {q : Addr} {k n : Nat} (h1 : cells ≤ k) (h2 : slots ≤ n) (kk : vx_W p l e R s m args below meth c H locs k n Q g q) : vx_W p l e R s m args below meth c H locs cells slots Q g q := fun T hT X => kk T hT (stand_widen X h1 h2)
theorem vx_out {pc : Nat} {E : String} {ce : Cell} {q : Addr} {mc ms : Nat} (hout : ∀ x ∈ c.exceptionTable.toList, covers x pc = false) (hlocks : meth.locks = false) (hcell : H[q]? = some ce) (hv : ce.vm = .none) (hcl : s.vm.findClass E = some ce.cls)
    (hx : ∀ t : State, t.heap = H → s.vm.Alike t.vm → XC E s t) (hf : ∀ z ∈ locs, free z.base) (hc : cells ≤ mc) (hs : slots ≤ ms) :
    vx_W p l e R s m args below meth c H locs cells slots (vx_MQ below Qc XC args s mc ms free) (F0 m pc ls rest) q := by
  intro T hT X
  obtain ⟨st1, hrun, hend, hW, hsm⟩ := X.leaveThrown q (g := F0 m pc ls rest) rfl rfl rfl hout hlocks
  have hcell9 : (T.setFrames (.throwing q :: below)).heap[q]? = some ce := by
    show T.heap[q]? = some ce
    rw [hT]; exact hcell
  exact ⟨_, st1, .threw q, hrun, hend, Or.inr ⟨q, rfl, E, ce, locs, hx _ hT hW.alike, hcell9, hv, hcl, hW, hsm.mono hc hs, hf⟩⟩
theorem vx_frame {U : State} {k n : Nat} (h : s.sameButNew ({ U with vm := s.vm } : State) locs k n) : s.heap.size ≤ U.heap.size ∧ ∀ q : Nat, q < s.heap.size → (∀ z ∈ locs, z.base ≠ q) → U.heap[q]? = s.heap[q]? := by
  obtain ⟨-, h2, -, -, -, h6⟩ := h
  refine ⟨h2, fun q hq hz => ?_⟩
  obtain ⟨c9, e1, e2, e3, e4⟩ := h6 q _ (Array.getElem?_eq_getElem hq)
  have hs : c9.slots = (s.heap[q]).slots := Array.ext_getElem? fun i => e4 i fun hm => hz _ hm rfl
  have h9 : c9 = s.heap[q] := by
    rw [hs] at e2
    exact e2
  have e5 : U.heap[q]? = some c9 := e1
  rw [e5, h9, Array.getElem?_eq_getElem hq]
/-- the words of a throw but the four that speak of the heap -/
def vx_no (w : Cond) : Bool := decide (w ≠ .isRef (.static Bundle.tN "UNASSIGNED_STACK" Bundle.steD)) && decide (w ≠ .isRef (.static Bundle.tN "SUPPRESSED_SENTINEL" Bundle.listD)) && decide (w ≠ .laysStatic Bundle.tN "UNASSIGNED_STACK" Bundle.steD) && decide (w ≠ .laysStatic Bundle.tN "SUPPRESSED_SENTINEL" Bundle.listD)
def vx_at0 (own : String) (ic : Nat) (X : String) (names : List String) : List Cond := (Bundle.ownAtoms0 own ic X names).filter vx_no
def vx_atS (own : String) (ic : Nat) (X : String) (names : List String) : List Cond := (Bundle.ownAtoms own ic X names).filter vx_no
/-- a word that the tables alone decide, or a good one -/
def vx_ot (w : Cond) : Bool := w.onTables || goodWord w
theorem vx_ot_at {args a' : Array Value} {s U : State} {w : Cond} (hW : s.WarmedH U.vm) (hvm : s.vm = U.vm) (hg : vx_ot w = true) (h : w.before args s = true) : w.before a' U = true := by
  simp only [vx_ot, Bool.or_eq_true] at hg
  rcases hg with hg | hg
  · exact va_tabs hg hvm h
  · exact word_at hW (good_of_word hg) h
/-- a list's words: the good ones out of the method's own list, the others by premises of their own -/
theorem vx_hat {args : Array Value} {s : State} {L B : List Cond} (h1 : ∀ w ∈ L.filter goodWord, w.before args s = true) (h2 : ∀ w ∈ L.filter (fun w => !goodWord w), w ∈ B) (h3 : ∀ w ∈ B, w.before args s = true) : ∀ w ∈ L, w.before args s = true := by
  intro w hw
  by_cases g : goodWord w = true
  · exact h1 w (List.mem_filter.mpr ⟨hw, g⟩)
  · refine h3 w (h2 w (List.mem_filter.mpr ⟨hw, ?_⟩))
    show (!goodWord w) = true
    cases hgw : goodWord w
    · rfl
    · exact absurd hgw g
theorem vx_c {args : Array Value} {s : State} {w : Cond} {B : List Cond} (h : w.before args s = true) (t : ∀ w ∈ B, w.before args s = true) : ∀ w' ∈ w :: B, w'.before args s = true := fun w' h' => (List.mem_cons.mp h').elim (fun e => by rw [e]; exact h) (t w')
theorem vx_n {args : Array Value} {s : State} : ∀ w ∈ ([] : List Cond), w.before args s = true := fun _ h => nomatch h
theorem vx_own {args : Array Value} {s : State} {L : List Cond} (h1 : ∀ w ∈ L.filter vx_no, w.before args s = true)
    (hU : (Cond.isRef (.static Bundle.tN "UNASSIGNED_STACK" Bundle.steD)).before args s = true) (hN : (Cond.isRef (.static Bundle.tN "SUPPRESSED_SENTINEL" Bundle.listD)).before args s = true)
    (lU : (Cond.laysStatic Bundle.tN "UNASSIGNED_STACK" Bundle.steD).before args s = true) (lN : (Cond.laysStatic Bundle.tN "SUPPRESSED_SENTINEL" Bundle.listD).before args s = true) : ∀ w ∈ L, w.before args s = true := by
  intro w hw
  by_cases e1 : w = .isRef (.static Bundle.tN "UNASSIGNED_STACK" Bundle.steD)
  · rw [e1]; exact hU
  · by_cases e2 : w = .isRef (.static Bundle.tN "SUPPRESSED_SENTINEL" Bundle.listD)
    · rw [e2]; exact hN
    · by_cases e3 : w = .laysStatic Bundle.tN "UNASSIGNED_STACK" Bundle.steD
      · rw [e3]; exact lU
      · by_cases e4 : w = .laysStatic Bundle.tN "SUPPRESSED_SENTINEL" Bundle.listD
        · rw [e4]; exact lN
        · exact h1 w (List.mem_filter.mpr ⟨hw, by unfold vx_no; rw [decide_eq_true e1, decide_eq_true e2, decide_eq_true e3, decide_eq_true e4]; rfl⟩)
/-- where a static field lies, its class's statics cell in H -/
def vx_L (C n d : String) (A : Nat → Prop) (U : State) (H : Heap) : Prop := ∃ (c : ClassId) (k : Class) (i : Nat) (f : Field) (a : Nat) (cell : Cell), U.vm.findClass C = some c ∧ U.fieldFound? C n d = some (c, k, i, f) ∧ f.isStatic = true ∧ k.statics = some a ∧ H[a]? = some cell ∧ cell.vm.isStatics = true ∧ cell.cls = c ∧ f.slot < cell.slots.size ∧ k.staticTypes[f.slot]? = some f.type ∧ ¬ A a
theorem vx_L.moved {C n d : String} {A : Nat → Prop} {u U : State} {H : Heap} (hvm : u.vm.Alike U.vm) (h : vx_L C n d A u H) : vx_L C n d A U H := by
  obtain ⟨c, k, i, f, a, cell, h1, h2, h3, h4, h5, h6, h7, h8, h9, h10⟩ := h
  obtain ⟨k', hi', he⟩ := State.fieldFound?_setVm hvm h2
  exact ⟨c, k', i, f, a, cell, by rw [hvm.findClass]; exact h1, hi', h3, by rw [he]; exact h4, h5, h6, h7, h8, by rw [he]; exact h9, h10⟩
theorem vx_L.kept {C n d : String} {A : Nat → Prop} {U : State} {H H1 : Heap} (h : vx_L C n d A U H) (hq : ∀ a : Nat, a < H.size → ¬ A a → H1[a]? = H[a]?) : vx_L C n d A U H1 := by
  obtain ⟨c, k, i, f, a, cell, h1, h2, h3, h4, h5, h6, h7, h8, h9, h10⟩ := h
  exact ⟨c, k, i, f, a, cell, h1, h2, h3, h4, by rw [hq a (Array.getElem?_eq_some_iff.mp h5).1 h10]; exact h5, h6, h7, h8, h9, h10⟩
theorem vx_L.narrow {C n d : String} {A B : Nat → Prop} {U : State} {H : Heap} (h : vx_L C n d A U H) (hAB : ∀ q, B q → A q) : vx_L C n d B U H := by
  obtain ⟨c, k, i, f, a, cell, h1, h2, h3, h4, h5, h6, h7, h8, h9, h10⟩ := h
  exact ⟨c, k, i, f, a, cell, h1, h2, h3, h4, h5, h6, h7, h8, h9, fun z => h10 (hAB _ z)⟩
theorem vx_L.word {C n d : String} {A : Nat → Prop} {s : State} {args : Array Value} (h : vx_L C n d A s s.heap) : (Cond.laysStatic C n d).before args s = true := by
  obtain ⟨c, k, i, f, a, cell, h1, h2, h3, h4, h5, h6, h7, h8, h9, -⟩ := h
  show (Cond.laysStatic C n d).holds args s none s [] = true
  exact Cond.laysStatic_of h1 h2 h3 h4 h5 h6 h7 h8 h9
/-- .. and what it holds: null or some reference -/
def vx_Zq (C n d : String) (A : Nat → Prop) (U : State) (H : Heap) : Prop := va_Zq C n d A U H ∧ vx_L C n d A U H
theorem vx_Zq.moved {C n d : String} {A : Nat → Prop} {u U : State} {H : Heap} (hvm : u.vm.Alike U.vm) (h : vx_Zq C n d A u H) : vx_Zq C n d A U H := ⟨va_Zq.moved hvm h.1, vx_L.moved hvm h.2⟩
theorem vx_Zq.kept {C n d : String} {A : Nat → Prop} {U : State} {H H1 : Heap} (h : vx_Zq C n d A U H) (hq : ∀ a : Nat, a < H.size → ¬ A a → H1[a]? = H[a]?) : vx_Zq C n d A U H1 := ⟨va_Zq.kept h.1 hq, vx_L.kept h.2 hq⟩
theorem vx_Zq.narrow {C n d : String} {A B : Nat → Prop} {U : State} {H : Heap} (h : vx_Zq C n d A U H) (hAB : ∀ q, B q → A q) : vx_Zq C n d B U H := ⟨va_Zq.narrow h.1 hAB, vx_L.narrow h.2 hAB⟩
theorem vx_Zqof {args : Array Value} {s : State} {C n d : String} {A : Nat → Prop} (hl : (Cond.laysStatic C n d).before args s = true) (hini : (Cond.initialized C).before args s = true) (h : (Cond.isRef (.static C n d)).before args s = true) (hA : ∀ a : Nat, a < s.heap.size → ¬ A a) : vx_Zq C n d A s s.heap := by
  refine ⟨va_Zqof hl hini h hA, ?_⟩
  obtain ⟨c, k, i, f, a, cell, h1, h2, h3, h4, h5, h6, h7, h8, h9⟩ := Cond.laysStatic_spec hl
  exact ⟨c, k, i, f, a, cell, h1, h2, h3, h4, h5, h6, h7, h8, h9, hA a (Array.getElem?_eq_some_iff.mp h5).1⟩
theorem vx_isRef {C n d : String} {v : Value} {A : Nat → Prop} {s : State} {args : Array Value} (h : va_Z C n d v A s s.heap) (hv : v.isRef = true) : (Cond.isRef (.static C n d)).before args s = true := by
  obtain ⟨cf, kf, fi, f, a, cell, h1, h2, h3, h4, h5, h6, h7, -⟩ := h
  have he : (Term.static C n d).eval args s none [] s = some v := by
    simp [Term.eval, State.fieldNamed?, h1, h2, h4, h5, h6, h7]
  simp only [Cond.before, Cond.holds, Cond.value, he]
  cases v <;> simp_all [Value.isRef]
theorem vx_isRefq {C n d : String} {A : Nat → Prop} {s : State} {args : Array Value} (h : va_Zq C n d A s s.heap) : (Cond.isRef (.static C n d)).before args s = true := by
  rcases h with h | ⟨t, h⟩
  · exact vx_isRef h rfl
  · exact vx_isRef h rfl
/-- the same frame, seen from here: as if the method were called anew in this heap -/
theorem vx_rebase {T : State} (X : Stand p l e R s m args below meth c T locs cells slots) {R' : Room} (hf : R'.frames ≤ R.frames) (hl : R'.locals ≤ R.locals) (hc : cells + R'.cells ≤ R.cells) (hs : slots + R'.slots ≤ R.slots) :
    Stand p l e R' ((T.setVm s.vm).setFrames (.invoking m args :: below)) m args below meth c T [] 0 0 := by
  have htop : (T.setVm s.vm).topJava?.isSome := X.here.top
  have hF : ((T.setVm s.vm).setFrames (.invoking m args :: below)).frames = .invoking m args :: below := State.frames_setFrames _ (State.cur_lt_of_top htop)
  obtain ⟨g₀, hg0⟩ := Option.isSome_iff_exists.mp htop
  obtain ⟨r, hr⟩ := State.topJava?_eq_some.mp hg0
  have hl9 : e.platform.stackLimits (T.setVm s.vm).me = e.platform.stackLimits s.me := X.limits
  have hb9 : (T.setVm s.vm).me.stackBytes = s.me.stackBytes := X.bytes
  refine ⟨X.admits, X.cas, X.clock, hF, ?_, X.hears, X.method, X.code, X.here, X.tail, X.warmed, ?_, ?_, ?_⟩
  · have h := X.room
    have hU : ((T.setVm s.vm).setFrames (.invoking m args :: below)).localsInUse = s.localsInUse := by
      rw [State.localsInUse_invoking hF (meth := meth) (c := c) X.method X.code, State.localsInUse_invoking X.frames X.method X.code]
    simp only [State.hasRoom, Bool.and_eq_true, decide_eq_true_eq] at h ⊢
    obtain ⟨⟨⟨⟨h1, h2, h3, h4, h5, h6⟩, h7⟩, h8⟩, h9⟩ := h
    rw [X.frames, List.length_cons] at h2 h3
    have q1 := X.heapSize
    have q2 := X.used
    simp only [hF, hU, List.length_cons, State.stackLimits_setFrames, State.stackBytes_setFrames, hl9, hb9]
    refine ⟨⟨⟨⟨by omega, by omega, by omega, by omega, by omega, h6⟩, ?_⟩, ?_⟩, X.book⟩
    · show T.heap.size + R'.cells ≤ e.platform.maxCells
      omega
    · show T.slotsUsed + R'.slots ≤ e.platform.maxSlots
      omega
  · rw [State.stackLimits_setFrames]; rfl
  · rw [State.stackBytes_setFrames]; rfl
  · refine ⟨?_, Nat.le_refl _, Nat.le_refl _, ?_, ?_, fun a c9 h9 => ⟨c9, h9, rfl, rfl, fun _ _ => rfl⟩⟩
    · obtain ⟨t, ht, -⟩ := State.frames_cons hr
      show T.setVm s.vm = { ((T.setVm s.vm).setFrames (.invoking m args :: below)).setFrames (T.setVm s.vm).frames with heap := T.heap, slotsUsed := T.slotsUsed }
      rw [State.setFrames_setFrames, State.setFrames_self ht]
      rfl
    · show T.slotsUsed = T.slotsUsed + ((T.heap.toList.drop T.heap.size).map (·.slots.size)).sum
      rw [List.drop_eq_nil_of_le (Nat.le_of_eq Array.length_toList)]
      rfl
    · show ((T.heap.toList.drop T.heap.size).map (·.slots.size)).sum ≤ 0
      rw [List.drop_eq_nil_of_le (Nat.le_of_eq Array.length_toList)]
      exact Nat.le_refl _
/-- 'throw new E()': new; dup; invokespecial; athrow -/
theorem vx_throw0 {cc : ByteArray} {pc : Nat} (hexec : p.tables.exec = Jvm.exec) (hb : c.code = cc) (hl : l.stackTraces = false) {own cls : String} {names : List String} {ik ic mc ms : Nat} {A : Nat → Prop}
    (hown : s.vm.findClass own = some m.cls) (hcls : Bundle.fit cls = true) (hnames : ∀ n ∈ names, Bundle.fit n = true)
    (hk : (Cond.classLink own ik cls).before args s = true) (hini : (Cond.initialized cls).before args s = true) (hat : ∀ w ∈ vx_at0 own ic cls names, w.before args s = true)
    (hgood : ∀ w ∈ Cond.classLink own ik cls :: Cond.initialized cls :: vx_at0 own ic cls names, vx_ot w = true)
    (hU : vx_Zq Bundle.tN "UNASSIGNED_STACK" Bundle.steD A s s.heap) (hN : vx_Zq Bundle.tN "SUPPRESSED_SENTINEL" Bundle.listD A s s.heap) (hS : va_S A s.heap H locs) (hsize : ls.size = c.maxLocals)
    (d0 : decode cc pc = .ok (.new ik, 3)) (d3 : decode cc (pc + 3) = .ok (.dup, 1)) (d4 : decode cc (pc + 4) = .ok (.invokespecial ic, 3)) (d7 : decode cc (pc + 7) = .ok (.athrow, 1))
    (hout : ∀ x ∈ c.exceptionTable.toList, covers x (pc + 7) = false)
    (hRframes : names.length + 3 < R.frames) (hRlocals : (rest.map fun v => v.category).sum + (13 * (names.length + 1) + 42) ≤ R.locals) (hRcells : cells + 1 ≤ R.cells) (hRslots : slots + 6 ≤ R.slots) (hlocks : meth.locks = false)
    (hx : ∀ t : State, s.vm.Alike t.vm → H.size ≤ t.heap.size → (∀ q : Nat, q < H.size → t.heap[q]? = H[q]?) → XC cls s t)
    (hf : ∀ z ∈ locs, free z.base) (hc : cells + 1 ≤ mc) (hs : slots + 6 ≤ ms) :
    W p l e R s m args below meth c H locs cells slots (vx_MQ below Qc XC args s mc ms free) (F0 m pc ls rest) := by
  intro T hT X
  have htr : e.platform.stackTraces = false := (show e.platform.stackTraces = l.stackTraces by rw [X.admits.platform]).trans hl
  have Y := vx_rebase X (R' := { frames := R.frames, locals := R.locals, cells := 1, slots := 6 }) (Nat.le_refl _) (Nat.le_refl _) hRcells hRslots
  obtain ⟨s', hA⟩ : ∃ z, z = (T.setVm s.vm).setFrames (.invoking m args :: below) := ⟨_, rfl⟩
  rw [← hA] at Y
  have hvm : s'.vm = s.vm := by rw [hA]; rfl
  have hhp : s'.heap = H := by rw [hA]; exact hT
  have hW0 : s.WarmedH s'.vm := by rw [hvm]; exact State.WarmedH.refl s
  have hat' : ∀ w ∈ vx_at0 own ic cls names, w.before args s' = true := fun w hw => vx_ot_at hW0 hvm.symm (hgood w (List.mem_cons_of_mem _ (List.mem_cons_of_mem _ hw))) (hat w hw)
  have hk' : (Cond.classLink own ik cls).before args s' = true := vx_ot_at hW0 hvm.symm (hgood _ List.mem_cons_self) hk
  have hini' : (Cond.initialized cls).before args s' = true := vx_ot_at hW0 hvm.symm (hgood _ (List.mem_cons_of_mem _ List.mem_cons_self)) hini
  have hU' : vx_Zq Bundle.tN "UNASSIGNED_STACK" Bundle.steD A s' s'.heap := by rw [hhp]; exact vx_Zq.moved hW0.alike (hU.kept hS.2.1)
  have hN' : vx_Zq Bundle.tN "SUPPRESSED_SENTINEL" Bundle.listD A s' s'.heap := by rw [hhp]; exact vx_Zq.moved hW0.alike (hN.kept hS.2.1)
  have h : ∀ w ∈ Bundle.ownAtoms0 own ic cls names, w.before args s' = true := vx_own hat' (vx_isRefq hU'.1) (vx_isRefq hN'.1) hU'.2.word hN'.2.word
  have hown' : s'.vm.findClass own = some m.cls := by rw [hvm]; exact hown
  have hins : (Cond.instantiable cls 6).before args s' = true := h _ (by simp [Bundle.ownAtoms0])
  obtain ⟨vm₁, cX, kX, hfX, hkX, -, -, X₁, st1⟩ := Y.newCold hexec (own := own) (C := cls) (index := ik) (n := 6) hown' hk' hins hini'
    (g := F0 m pc ls rest) rfl (by rw [hb]; exact d0) (Nat.le_refl _) (Nat.le_refl _)
  generalize hT1 : (T.setVm vm₁).pushCell { cls := cX, slots := kX.instanceTypes.map defaultValue, vm := .none } = T1 at X₁ st1
  have hcat : (Value.ref T.heap.size).category = 1 := rfl
  have hcellA : T1.heap[T.heap.size]? = some (freshCell cX kX) := by rw [← hT1]; exact State.heap_pushCell_size _ _
  have d3' : decode c.code (pc + 3) = .ok (.dup, 1) := by rw [hb]; exact d3
  obtain ⟨U, hsteps, hrun, hend, hW, hsame, ce, hce, hO⟩ := X₁.ctorThrow0 hexec htr (own := own) (cls := cls) (names := names) (ic := ic) hown' hcls hnames h (fun x hx => nomatch hx) hfX hkX hcellA (by rw [hhp, hT]; exact Nat.le_refl _)
    (g := { method := m, pc := pc + 4, locals := ls, stack := .ref T.heap.size :: .ref T.heap.size :: rest, locked := none }) rfl hsize rfl rfl (rest := rest) rfl
    (by rw [hb]; exact d4) (by rw [hb]; exact d7) hout hRframes (by simp only [List.map_cons, List.sum_cons, hcat]; omega) hlocks
  obtain ⟨f1, f2⟩ := vx_frame hsame
  rw [hhp] at f1 f2
  have hWs : s.WarmedH U.vm := State.WarmedH.trans hW0 hW
  have hcl : s.vm.findClass cls = some ce.cls := by
    have h9 := hO.cls
    rw [hvm] at h9
    exact h9
  have hall : s.sameButNew ({ U with vm := s.vm } : State) locs mc ms := by
    subst hA
    obtain ⟨e1, e2⟩ := hsame
    rw [State.setFrames_setFrames] at e1
    have h2 : (T.setVm s.vm).sameButNew ({ U with vm := s.vm } : State) [] (0 + 1) (0 + 6) := ⟨e1, e2⟩
    have h3 := X.same.trans h2
    rw [List.append_nil] at h3
    exact h3.mono hc hs
  refine ⟨U, ?_, .threw T.heap.size, hrun, hend, Or.inr ⟨T.heap.size, rfl, cls, ce, locs, hx U hWs.alike f1 (fun q hq => f2 q hq (fun z hz => nomatch hz)), hce, hO.vm, hcl, hWs, hall, hf⟩⟩
  refine st1 _ ?_
  show Steps p.tables e below (T1.setTop { method := m, pc := pc + 3, locals := ls, stack := .ref T.heap.size :: rest, locked := none }) _
  jvm_step X₁.here [X₁.here.top, hexec, d3', Value.category]
  exact hsteps
/-- 'throw new E("text")': new; dup; ldc; invokespecial; athrow -/
theorem vx_throwS {cc : ByteArray} {pc : Nat} (hexec : p.tables.exec = Jvm.exec) (hb : c.code = cc) (hl : l.stackTraces = false) {own cls text : String} {names : List String} {ik is ic mc ms sa : Nat} {A : Nat → Prop}
    (hown : s.vm.findClass own = some m.cls) (hcls : Bundle.fit cls = true) (hnames : ∀ n ∈ names, Bundle.fit n = true)
    (hk : (Cond.classLink own ik cls).before args s = true) (hini : (Cond.initialized cls).before args s = true) (hstr : vk_R own is text sa s) (hat : ∀ w ∈ vx_atS own ic cls names, w.before args s = true)
    (hgood : ∀ w ∈ Cond.classLink own ik cls :: Cond.initialized cls :: vx_atS own ic cls names, vx_ot w = true)
    (hU : vx_Zq Bundle.tN "UNASSIGNED_STACK" Bundle.steD A s s.heap) (hN : vx_Zq Bundle.tN "SUPPRESSED_SENTINEL" Bundle.listD A s s.heap) (hS : va_S A s.heap H locs) (hsize : ls.size = c.maxLocals)
    (d0 : decode cc pc = .ok (.new ik, 3)) (d3 : decode cc (pc + 3) = .ok (.dup, 1)) (d4 : decode cc (pc + 4) = .ok (.ldc is, 2)) (d6 : decode cc (pc + 6) = .ok (.invokespecial ic, 3)) (d9 : decode cc (pc + 9) = .ok (.athrow, 1))
    (hout : ∀ x ∈ c.exceptionTable.toList, covers x (pc + 9) = false)
    (hRframes : names.length + 3 < R.frames) (hRlocals : (rest.map fun v => v.category).sum + (13 * (names.length + 1) + 43) ≤ R.locals) (hRcells : cells + 1 ≤ R.cells) (hRslots : slots + 6 ≤ R.slots) (hlocks : meth.locks = false)
    (hx : ∀ t : State, s.vm.Alike t.vm → H.size ≤ t.heap.size → (∀ q : Nat, q < H.size → t.heap[q]? = H[q]?) → XC cls s t)
    (hf : ∀ z ∈ locs, free z.base) (hc : cells + 1 ≤ mc) (hs : slots + 6 ≤ ms) :
    W p l e R s m args below meth c H locs cells slots (vx_MQ below Qc XC args s mc ms free) (F0 m pc ls rest) := by
  intro T hT X
  have htr : e.platform.stackTraces = false := (show e.platform.stackTraces = l.stackTraces by rw [X.admits.platform]).trans hl
  have Y := vx_rebase X (R' := { frames := R.frames, locals := R.locals, cells := 1, slots := 6 }) (Nat.le_refl _) (Nat.le_refl _) hRcells hRslots
  obtain ⟨s', hA⟩ : ∃ z, z = (T.setVm s.vm).setFrames (.invoking m args :: below) := ⟨_, rfl⟩
  rw [← hA] at Y
  have hvm : s'.vm = s.vm := by rw [hA]; rfl
  have hhp : s'.heap = H := by rw [hA]; exact hT
  have hW0 : s.WarmedH s'.vm := by rw [hvm]; exact State.WarmedH.refl s
  have hat' : ∀ w ∈ vx_atS own ic cls names, w.before args s' = true := fun w hw => vx_ot_at hW0 hvm.symm (hgood w (List.mem_cons_of_mem _ (List.mem_cons_of_mem _ hw))) (hat w hw)
  have hk' : (Cond.classLink own ik cls).before args s' = true := vx_ot_at hW0 hvm.symm (hgood _ List.mem_cons_self) hk
  have hini' : (Cond.initialized cls).before args s' = true := vx_ot_at hW0 hvm.symm (hgood _ (List.mem_cons_of_mem _ List.mem_cons_self)) hini
  have hU' : vx_Zq Bundle.tN "UNASSIGNED_STACK" Bundle.steD A s' s'.heap := by rw [hhp]; exact vx_Zq.moved hW0.alike (hU.kept hS.2.1)
  have hN' : vx_Zq Bundle.tN "SUPPRESSED_SENTINEL" Bundle.listD A s' s'.heap := by rw [hhp]; exact vx_Zq.moved hW0.alike (hN.kept hS.2.1)
  have h : ∀ w ∈ Bundle.ownAtoms own ic cls names, w.before args s' = true := vx_own hat' (vx_isRefq hU'.1) (vx_isRefq hN'.1) hU'.2.word hN'.2.word
  have hown' : s'.vm.findClass own = some m.cls := by rw [hvm]; exact hown
  have hins : (Cond.instantiable cls 6).before args s' = true := h _ (by simp [Bundle.ownAtoms])
  obtain ⟨vm₁, cX, kX, hfX, hkX, -, -, X₁, st1⟩ := Y.newCold hexec (own := own) (C := cls) (index := ik) (n := 6) hown' hk' hins hini'
    (g := F0 m pc ls rest) rfl (by rw [hb]; exact d0) (Nat.le_refl _) (Nat.le_refl _)
  generalize hT1 : (T.setVm vm₁).pushCell { cls := cX, slots := kX.instanceTypes.map defaultValue, vm := .none } = T1 at X₁ st1
  have hcat : (Value.ref T.heap.size).category = 1 := rfl
  have hcellA : T1.heap[T.heap.size]? = some (freshCell cX kX) := by rw [← hT1]; exact State.heap_pushCell_size _ _
  have d3' : decode c.code (pc + 3) = .ok (.dup, 1) := by rw [hb]; exact d3
  have d4' : decode c.code (pc + 4) = .ok (.ldc is, 2) := by rw [hb]; exact d4
  have hstr' : vk_R own is text sa s' := vk_R.warm hW0 hstr
  obtain ⟨U, hsteps, hrun, hend, hW, hsame, ce, hce, hO⟩ := X₁.ctorThrowS hexec htr (own := own) (cls := cls) (names := names) (ic := ic) hown' hcls hnames h (fun x hx => nomatch hx) hfX hkX hcellA (by rw [hhp, hT]; exact Nat.le_refl _) (msg := .ref sa) rfl
    (g := { method := m, pc := pc + 6, locals := ls, stack := .ref sa :: .ref T.heap.size :: .ref T.heap.size :: rest, locked := none }) rfl hsize rfl rfl (rest := rest) rfl
    (by rw [hb]; exact d6) (by rw [hb]; exact d9) hout hRframes (by simp only [List.map_cons, List.sum_cons, hcat]; omega) hlocks
  obtain ⟨f1, f2⟩ := vx_frame hsame
  rw [hhp] at f1 f2
  have hWs : s.WarmedH U.vm := State.WarmedH.trans hW0 hW
  have hcl : s.vm.findClass cls = some ce.cls := by
    have h9 := hO.cls
    rw [hvm] at h9
    exact h9
  have hall : s.sameButNew ({ U with vm := s.vm } : State) locs mc ms := by
    subst hA
    obtain ⟨e1, e2⟩ := hsame
    rw [State.setFrames_setFrames] at e1
    have h2 : (T.setVm s.vm).sameButNew ({ U with vm := s.vm } : State) [] (0 + 1) (0 + 6) := ⟨e1, e2⟩
    have h3 := X.same.trans h2
    rw [List.append_nil] at h3
    exact h3.mono hc hs
  refine ⟨U, ?_, .threw T.heap.size, hrun, hend, Or.inr ⟨T.heap.size, rfl, cls, ce, locs, hx U hWs.alike f1 (fun q hq => f2 q hq (fun z hz => nomatch hz)), hce, hO.vm, hcl, hWs, hall, hf⟩⟩
  refine st1 _ ?_
  show Steps p.tables e below (T1.setTop { method := m, pc := pc + 3, locals := ls, stack := .ref T.heap.size :: rest, locked := none }) _
  jvm_step X₁.here [X₁.here.top, hexec, d3', Value.category]
  exact X₁.ldcString hexec (own := own) (text := text) (index := is) (a := sa) hown' hstr'.1 hstr'.2
    (g := { method := m, pc := pc + 4, locals := ls, stack := .ref T.heap.size :: .ref T.heap.size :: rest, locked := none }) rfl d4' _ hsteps
/-- 'throw new E("text")', the text by a wide index -/
theorem vx_throwSW {cc : ByteArray} {pc : Nat} (hexec : p.tables.exec = Jvm.exec) (hb : c.code = cc) (hl : l.stackTraces = false) {own cls text : String} {names : List String} {ik is ic mc ms sa : Nat} {A : Nat → Prop}
    (hown : s.vm.findClass own = some m.cls) (hcls : Bundle.fit cls = true) (hnames : ∀ n ∈ names, Bundle.fit n = true)
    (hk : (Cond.classLink own ik cls).before args s = true) (hini : (Cond.initialized cls).before args s = true) (hstr : vk_R own is text sa s) (hat : ∀ w ∈ vx_atS own ic cls names, w.before args s = true)
    (hgood : ∀ w ∈ Cond.classLink own ik cls :: Cond.initialized cls :: vx_atS own ic cls names, vx_ot w = true)
    (hU : vx_Zq Bundle.tN "UNASSIGNED_STACK" Bundle.steD A s s.heap) (hN : vx_Zq Bundle.tN "SUPPRESSED_SENTINEL" Bundle.listD A s s.heap) (hS : va_S A s.heap H locs) (hsize : ls.size = c.maxLocals)
    (d0 : decode cc pc = .ok (.new ik, 3)) (d3 : decode cc (pc + 3) = .ok (.dup, 1)) (d4 : decode cc (pc + 4) = .ok (.ldc_w is, 3)) (d7 : decode cc (pc + 7) = .ok (.invokespecial ic, 3)) (d10 : decode cc (pc + 10) = .ok (.athrow, 1))
    (hout : ∀ x ∈ c.exceptionTable.toList, covers x (pc + 10) = false)
    (hRframes : names.length + 3 < R.frames) (hRlocals : (rest.map fun v => v.category).sum + (13 * (names.length + 1) + 43) ≤ R.locals) (hRcells : cells + 1 ≤ R.cells) (hRslots : slots + 6 ≤ R.slots) (hlocks : meth.locks = false)
    (hx : ∀ t : State, s.vm.Alike t.vm → H.size ≤ t.heap.size → (∀ q : Nat, q < H.size → t.heap[q]? = H[q]?) → XC cls s t)
    (hf : ∀ z ∈ locs, free z.base) (hc : cells + 1 ≤ mc) (hs : slots + 6 ≤ ms) :
    W p l e R s m args below meth c H locs cells slots (vx_MQ below Qc XC args s mc ms free) (F0 m pc ls rest) := by
  intro T hT X
  have htr : e.platform.stackTraces = false := (show e.platform.stackTraces = l.stackTraces by rw [X.admits.platform]).trans hl
  have Y := vx_rebase X (R' := { frames := R.frames, locals := R.locals, cells := 1, slots := 6 }) (Nat.le_refl _) (Nat.le_refl _) hRcells hRslots
  obtain ⟨s', hA⟩ : ∃ z, z = (T.setVm s.vm).setFrames (.invoking m args :: below) := ⟨_, rfl⟩
  rw [← hA] at Y
  have hvm : s'.vm = s.vm := by rw [hA]; rfl
  have hhp : s'.heap = H := by rw [hA]; exact hT
  have hW0 : s.WarmedH s'.vm := by rw [hvm]; exact State.WarmedH.refl s
  have hat' : ∀ w ∈ vx_atS own ic cls names, w.before args s' = true := fun w hw => vx_ot_at hW0 hvm.symm (hgood w (List.mem_cons_of_mem _ (List.mem_cons_of_mem _ hw))) (hat w hw)
  have hk' : (Cond.classLink own ik cls).before args s' = true := vx_ot_at hW0 hvm.symm (hgood _ List.mem_cons_self) hk
  have hini' : (Cond.initialized cls).before args s' = true := vx_ot_at hW0 hvm.symm (hgood _ (List.mem_cons_of_mem _ List.mem_cons_self)) hini
  have hU' : vx_Zq Bundle.tN "UNASSIGNED_STACK" Bundle.steD A s' s'.heap := by rw [hhp]; exact vx_Zq.moved hW0.alike (hU.kept hS.2.1)
  have hN' : vx_Zq Bundle.tN "SUPPRESSED_SENTINEL" Bundle.listD A s' s'.heap := by rw [hhp]; exact vx_Zq.moved hW0.alike (hN.kept hS.2.1)
  have h : ∀ w ∈ Bundle.ownAtoms own ic cls names, w.before args s' = true := vx_own hat' (vx_isRefq hU'.1) (vx_isRefq hN'.1) hU'.2.word hN'.2.word
  have hown' : s'.vm.findClass own = some m.cls := by rw [hvm]; exact hown
  have hins : (Cond.instantiable cls 6).before args s' = true := h _ (by simp [Bundle.ownAtoms])
  obtain ⟨vm₁, cX, kX, hfX, hkX, -, -, X₁, st1⟩ := Y.newCold hexec (own := own) (C := cls) (index := ik) (n := 6) hown' hk' hins hini'
    (g := F0 m pc ls rest) rfl (by rw [hb]; exact d0) (Nat.le_refl _) (Nat.le_refl _)
  generalize hT1 : (T.setVm vm₁).pushCell { cls := cX, slots := kX.instanceTypes.map defaultValue, vm := .none } = T1 at X₁ st1
  have hcat : (Value.ref T.heap.size).category = 1 := rfl
  have hcellA : T1.heap[T.heap.size]? = some (freshCell cX kX) := by rw [← hT1]; exact State.heap_pushCell_size _ _
  have d3' : decode c.code (pc + 3) = .ok (.dup, 1) := by rw [hb]; exact d3
  have d4' : decode c.code (pc + 4) = .ok (.ldc_w is, 3) := by rw [hb]; exact d4
  have hstr' : vk_R own is text sa s' := vk_R.warm hW0 hstr
  obtain ⟨U, hsteps, hrun, hend, hW, hsame, ce, hce, hO⟩ := X₁.ctorThrowS hexec htr (own := own) (cls := cls) (names := names) (ic := ic) hown' hcls hnames h (fun x hx => nomatch hx) hfX hkX hcellA (by rw [hhp, hT]; exact Nat.le_refl _) (msg := .ref sa) rfl
    (g := { method := m, pc := pc + 7, locals := ls, stack := .ref sa :: .ref T.heap.size :: .ref T.heap.size :: rest, locked := none }) rfl hsize rfl rfl (rest := rest) rfl
    (by rw [hb]; exact d7) (by rw [hb]; exact d10) hout hRframes (by simp only [List.map_cons, List.sum_cons, hcat]; omega) hlocks
  obtain ⟨f1, f2⟩ := vx_frame hsame
  rw [hhp] at f1 f2
  have hWs : s.WarmedH U.vm := State.WarmedH.trans hW0 hW
  have hcl : s.vm.findClass cls = some ce.cls := by
    have h9 := hO.cls
    rw [hvm] at h9
    exact h9
  have hall : s.sameButNew ({ U with vm := s.vm } : State) locs mc ms := by
    subst hA
    obtain ⟨e1, e2⟩ := hsame
    rw [State.setFrames_setFrames] at e1
    have h2 : (T.setVm s.vm).sameButNew ({ U with vm := s.vm } : State) [] (0 + 1) (0 + 6) := ⟨e1, e2⟩
    have h3 := X.same.trans h2
    rw [List.append_nil] at h3
    exact h3.mono hc hs
  refine ⟨U, ?_, .threw T.heap.size, hrun, hend, Or.inr ⟨T.heap.size, rfl, cls, ce, locs, hx U hWs.alike f1 (fun q hq => f2 q hq (fun z hz => nomatch hz)), hce, hO.vm, hcl, hWs, hall, hf⟩⟩
  refine st1 _ ?_
  show Steps p.tables e below (T1.setTop { method := m, pc := pc + 3, locals := ls, stack := .ref T.heap.size :: rest, locked := none }) _
  jvm_step X₁.here [X₁.here.top, hexec, d3', Value.category]
  exact X₁.ldcStringW hexec (own := own) (text := text) (index := is) (a := sa) hown' hstr'.1 hstr'.2
    (g := { method := m, pc := pc + 4, locals := ls, stack := .ref T.heap.size :: .ref T.heap.size :: rest, locked := none }) rfl d4' _ hsteps
end Ends
section Bodies
variable {l : Launch}
theorem vx_ofW {y : MethodName} {ws ws' : List Cond} {rm : Room} {Pc : Array Value → State → Prop} {Qc : Array Value → State → Outcome → State → Prop} {XC : String → State → State → Prop} {mc ms : Nat} {free : Addr → Prop} {cc : ByteArray} {maxL : Nat} {ret : Option FieldType}
    (hy : plainName y.cls = true) (hw : ws = Cond.code y cc maxL ret :: ws')
    (body : ∀ p e s m args below meth c s₁, BodyLoose p l y (headSpec ws rm) cc maxL ret e s m args below meth c s₁ → c.maxLocals = maxL → (∀ x ∈ c.exceptionTable.toList, False) → Pc args s →
      W p l e (headSpec ws rm).room s m args below meth c s.heap [] 0 0 (vx_MQ below Qc XC args s mc ms free) (entryFrame m args maxL)) : vx_Met l y ws rm Pc Qc XC mc ms free := by
  refine MetFree.of_bodyS (code := cc) (maxLocals := maxL) (ret := ret) hy ?_ ?_
  · intro args s m h hn
    obtain ⟨meth, c, h1, h2, h3, h4, h5, h6, -, -⟩ := Cond.code_spec hn (atoms_spec (ws := ws) h _ (by rw [hw]; exact List.mem_cons_self))
    exact ⟨meth, c, h1, h2, h3, h4, h5, h6⟩
  · intro p e s m args below meth c s₁ B hml hP _
    have hh0 : s₁.heap = s.heap := by rw [B.state]; rfl
    have ht : ∀ x ∈ c.exceptionTable.toList, False := by
      obtain ⟨meth9, c9, h1, h2, -, -, -, -, h7, -⟩ := Cond.code_spec B.named (atoms_spec (ws := ws) B.pre _ (by rw [hw]; exact List.mem_cons_self))
      cases Option.some.inj (h1.symm.trans B.method)
      cases Option.some.inj (h2.symm.trans (Stand.of_body B).code)
      intro x hx
      rw [Array.isEmpty_iff.mp h7] at hx
      cases hx
    obtain ⟨t, a1, o, b1, b2, b3⟩ := body p e s m args below meth c s₁ B hml ht hP s₁ hh0 (Stand.of_body B)
    exact ⟨t, o, a1, b1, b2, b3⟩
/-- the table of a body with handlers -/
theorem vx_table {p : Program} {x y : MethodName} {S : Spec} {cc bytes : ByteArray} {maxL maxL' : Nat} {ret ret' : Option FieldType} {e : Env} {s s₁ : State} {m : MethodId} {args : Array Value} {below : List Frame} {meth : Method} {c : Code} {hh : List (Nat × Nat × Nat × Nat)}
    (B : BodyLoose p l y S cc maxL ret e s m args below meth c s₁) (h : (Cond.codeWith y bytes maxL' ret' hh).before args s = true) : c.exceptionTable.toList = tableOf hh := by
  obtain ⟨m9, meth9, c9, hn9, h1, h2, -, -, h6, -⟩ := Cond.codeWith_spec h
  cases Option.some.inj (hn9.symm.trans B.named)
  cases Option.some.inj (h1.symm.trans B.method)
  cases Option.some.inj (h2.symm.trans (Stand.of_body B).code)
  rw [← h6, table_eq]
end Bodies
end VXA
/-! ===== END ===== -/
/-! ===== BEGIN a static call of a method with an exception table ===== -/
section VXS
variable {p : Program} {l : Launch} {e : Env} {R : Room} {s : State} {m : MethodId} {args : Array Value} {below : List Frame} {meth : Method} {c : Code} {T : State} {H : Heap} {locs : List Loc} {cells slots : Nat}
abbrev vx_CSW (R : Room) (s : State) (args : Array Value) (own : String) (index : Nat) (y : MethodName) (bytes : ByteArray) (maxL : Nat) (ret : Option FieldType) (hh : List (Nat × Nat × Nat × Nat)) (ws : List Cond) (rm : Room) (mc ms n : Nat) : Prop :=
  (rm.cells = mc ∧ rm.slots = ms ∧ rm.frames + 1 ≤ R.frames ∧ 8 + (maxL + 11) + rm.locals ≤ R.locals ∧ (∀ w ∈ ws, ∀ (a' : Array Value) (U : State), s.WarmedH U.vm → w.before a' U = true) ∧ Cond.codeWith y bytes maxL ret hh ∈ ws) ∧
  (Cond.codeWith y bytes maxL ret hh).before args s = true ∧ (Cond.initialized y.cls).before args s = true ∧ (y.cls ≠ "java/lang/invoke/MethodHandle" ∧ y.cls ≠ "java/lang/invoke/VarHandle") ∧
  (∀ sig, parseMethodDescriptor y.desc = some sig → n = sig.parameters.length) ∧ (Cond.methodLink own index y).before args s = true ∧ (Cond.static y).before args s = true
theorem vx_cwSW {own : String} {index maxL mc ms : Nat} {y : MethodName} {bytes : ByteArray} {ret : Option FieldType} {hh : List (Nat × Nat × Nat × Nat)} {Ts ws ws' : List Cond} {rm : Room} (n : Nat) (ht : ∀ w ∈ Ts, w.before args s = true) (hT : GoodIn Ts (va_wsS own index y ws)) (hw : ws = Cond.codeWith y bytes maxL ret hh :: ws') (hrc : rm.cells = mc) (hrs : rm.slots = ms)
    (hd : y.cls ≠ "java/lang/invoke/MethodHandle" ∧ y.cls ≠ "java/lang/invoke/VarHandle" ∧ (parseMethodDescriptor y.desc).map (fun d => d.parameters.length) = some n) (hR : rm.frames + 1 ≤ R.frames ∧ 8 + (maxL + 11) + rm.locals ≤ R.locals) :
    vx_CSW R s args own index y bytes maxL ret hh ws rm mc ms n := by
  have ok : ∀ w ∈ va_wsS own index y ws, w.before args s = true := fun w h => ht w (hT w h).1
  have hG : GoodIn Ts ws := fun w h => hT w (by unfold va_wsS; exact List.mem_append_right _ h)
  have hc : Cond.codeWith y bytes maxL ret hh ∈ ws := by rw [hw]; exact List.mem_cons_self
  refine ⟨⟨hrc, hrs, hR.1, hR.2, pay_in ht hG, hc⟩, ht _ (hG _ hc).1, ok _ (by simp [va_wsS]), ⟨hd.1, hd.2.1⟩, fun sig h => ?_, ok _ (by simp [va_wsS]), ok _ (by simp [va_wsS])⟩
  have h2 := hd.2.2
  rw [h] at h2
  exact (Option.some.inj h2).symm
theorem vx_callSW (X : Stand p l e R s m args below meth c T locs cells slots) (hexec : p.tables.exec = Jvm.exec) {own : String} {index : Nat} {y : MethodName} {bytes : ByteArray} {maxL : Nat} {ret : Option FieldType} {hh : List (Nat × Nat × Nat × Nat)}
    (hown : s.vm.findClass own = some m.cls) (hlink : (Cond.methodLink own index y).before args s = true) (hstat : (Cond.static y).before args s = true) (hinit : (Cond.initialized y.cls).before args s = true)
    (hcode : (Cond.codeWith y bytes maxL ret hh).before args s = true) (hy : y.cls ≠ "java/lang/invoke/MethodHandle" ∧ y.cls ≠ "java/lang/invoke/VarHandle")
    {W9 : Nat} {Pre : Pt → Array Value → Prop} {Post : Pt → Array Value → Option Value → Pt → Prop} (hK : Back l R p e below s args y 3 W9 Pre Post)
    {g : JFrame} (hg : g.method = m) (hsize : g.locals.size = c.maxLocals) {argsL rest : List Value} (hlen : ∀ sig, parseMethodDescriptor y.desc = some sig → argsL.length = sig.parameters.length)
    (hstack : g.stack = argsL.reverse ++ rest) (hW : 2 * g.monitorRoom + (rest.map fun v => v.category).sum ≤ W9) (hdg : decode c.code g.pc = .ok (.invokestatic index, 3))
    (hpre : ∀ vm₁, s.WarmedH vm₁ → Pre ⟨T.setVm vm₁, locs, cells, slots⟩ argsL.toArray) :
    ∃ (v : Option Value) (vm₁ : Vm) (B : Pt), s.WarmedH vm₁ ∧ Stand p l e R s m args below meth c B.U B.locs B.cells B.slots ∧ Post ⟨T.setVm vm₁, locs, cells, slots⟩ argsL.toArray v B ∧
      ∀ target, Steps p.tables e below (B.U.setTop { g with pc := g.pc + 3, stack := v.toList ++ rest }) target → Steps p.tables e below (T.setTop g) target := by
  obtain ⟨mk, methM, cM, hnamed, hmethM, -, -, -, -, -, -, hsigM⟩ := Cond.codeWith_spec hcode
  have hstatic : methM.isStatic = true := Cond.static_spec hnamed hmethM hstat
  obtain ⟨kP, hkP, -⟩ := className_of_methodNamed hnamed
  have hinitP : kP.init = .initialized := Cond.initialized_spec (findClass_of_methodNamed hnamed) hkP hinit
  obtain ⟨vm₁, X₁, hstep₁⟩ := X.invokestatic hexec hown hlink hnamed hmethM hstatic hkP hinitP hy (g := g) hg (argsL := argsL) (rest := rest) (hlen _ hsigM) hstack hdg
  obtain ⟨v, B, X', hpost, hsteps⟩ := hK m meth c ⟨T.setVm vm₁, locs, cells, slots⟩ { g with stack := rest } (.invokestatic index) mk argsL.toArray X₁ hg hsize hdg hW (X₁.named hnamed) (hpre vm₁ X₁.warmed)
  exact ⟨v, vm₁, B, X₁.warmed, X', hpost, fun target h => hstep₁ _ fun acts => by rw [doInvoke_state]; exact hsteps.trans h⟩
theorem vx_runSW {y : MethodName} {bytes cc : ByteArray} {maxL nL mc ms n index : Nat} {ret : Option FieldType} {hh : List (Nat × Nat × Nat × Nat)} {ws : List Cond} {rm : Room} {Pc : Array Value → State → Prop} {Qc : Array Value → State → Outcome → State → Prop} {free : Addr → Prop} {Ts : List Cond} {own : String} {As rest : List Value} {g : JFrame}
    (S : CallFix p m c cc nL s args Ts own) (hM : Met l y ws rm Pc Qc mc ms free) (cw : vx_CSW R s args own index y bytes maxL ret hh ws rm mc ms n) (hp : PreS s H Pc As)
    (hg : g.method = m) (hn : As.length = n) (hsize : g.locals.size = nL) (hstack : g.stack = As.reverse ++ rest) (hW : 2 * g.monitorRoom + (rest.map fun v => v.category).sum ≤ 8) (hdg : decode cc g.pc = .ok (.invokestatic index, 3)) (hf : cells + mc ≤ R.cells ∧ slots + ms ≤ R.slots) :
    va_Run p l e R s m args below meth c H locs cells slots mc ms g rest (Qc As.toArray) (free) := by
  obtain ⟨⟨hrc, hrs, hfr, hlo, hws, hcw⟩, hcode, hini, hy, hlen, hl, hstt⟩ := cw
  have hK : Back l R p e below s args y 3 8 (PreOf R mc ms Pc) (PostOf Qc mc ms free) := va_backW (hh := hh) (bytes := bytes) (maxL := maxL) (ret := ret) hM hp.1 hrc hrs hfr hlo hws hcw (fun a' U hW => word_at hW (Or.inl (by first | rfl | simp [Cond.onTables, Cond.keeps, Cond.steady])) hini)
  obtain ⟨hx, hb, hml, ho, -⟩ := S
  intro T hT X
  obtain ⟨v, vm₁, ⟨U', l2, c2, s2⟩, hW₁, X', ⟨g', mk, t, L, e1, e2, hq, h1, hL, h2, h3⟩, st⟩ := vx_callSW X hx (hh := hh) (bytes := bytes) (maxL := maxL) (ret := ret) ho hl hstt hini hcode hy hK hg (hsize.trans hml.symm) (argsL := As) (rest := rest) (fun sig h => hn.trans (hlen sig h)) hstack hW (by rw [hb]; exact hdg)
    (fun vm₁ hW₁ => ⟨hf.1, hf.2, hp.2 (T.setVm vm₁) hT hW₁⟩)
  dsimp only [Pt.U, Pt.locs, Pt.cells, Pt.slots] at X' e1 e2 h1 h2 h3 st
  subst h1; subst h2; subst h3
  exact ⟨v, (T.setVm vm₁).calling g' mk As.toArray, t, U', L, hT, X', hL, e1, e2, hq, st⟩
/-- not caught here, past rows that name other classes: it goes on to the caller -/
theorem vx_outP {p : Program} {l : Launch} {e : Env} {R : Room} {s : State} {m : MethodId} {args : Array Value} {below : List Frame} {meth : Method} {c : Code} {H : Heap} {locs : List Loc} {cells slots : Nat} {free : Addr → Prop} {ls : Array Slot} {rest : List Value} {Qc : Array Value → State → Outcome → State → Prop} {XC : String → State → State → Prop}
    {pc : Nat} {own E : String} {ce : Cell} {q : Addr} {mc ms : Nat} (hown : s.vm.findClass own = some m.cls) (hlocks : meth.locks = false)
    (hpass : ∀ z ∈ c.exceptionTable.toList, covers z pc = false ∨ (z.catchType ≠ 0 ∧ ∃ nm : String, (Cond.classLink own z.catchType nm).before args s = true ∧ va_Nc E nm s)) (hcell : H[q]? = some ce) (hv : ce.vm = .none) (hcl : s.vm.findClass E = some ce.cls)
    (hx : ∀ t : State, t.heap = H → s.vm.Alike t.vm → XC E s t) (hf : ∀ z ∈ locs, free z.base) (hc : cells ≤ mc) (hs : slots ≤ ms) :
    vx_W p l e R s m args below meth c H locs cells slots (vx_MQ below Qc XC args s mc ms free) (F0 m pc ls rest) q := by
  intro T hT X
  have hpl : e.platform.magicAccessors = ({} : Platform).magicAccessors := by rw [X.admits.platform]
  obtain ⟨vm', hW', X', st⟩ := X.outThrough hlocks q (g := F0 m pc ls rest) rfl rfl rfl (cell := ce) (by rw [hT]; exact hcell) (by rw [hv]; rfl)
    (by obtain ⟨k9, h9, -⟩ := Vm.findClass_spec hcl; exact ⟨k9, h9⟩) (fun z hz => by
      rcases hpass z hz with h | ⟨hz0, nm, hl1, hn1⟩
      · exact Or.inl h
      · obtain ⟨c6, hc6, hcl6⟩ := Cond.classLink_spec hown hl1 e.platform hpl
        obtain ⟨a8, b8, h1, h2, h3⟩ := hn1
        cases Option.some.inj (h1.symm.trans hcl)
        cases Option.some.inj (h2.symm.trans hc6)
        exact Or.inr ⟨hz0, _, hcl6, h3⟩)
  obtain ⟨g₀, hfr⟩ := X'.frames_eq
  have hcell9 : ((T.setVm vm').setFrames (.throwing q :: below)).heap[q]? = some ce := by
    show T.heap[q]? = some ce
    rw [hT]; exact hcell
  have hend : Ended ((T.setVm vm').setFrames (.throwing q :: below)) below (.threw q) := State.frames_setFrames _ (State.cur_lt_of_frames hfr)
  refine ⟨(T.setVm vm').setFrames (.throwing q :: below), ?_, .threw q, X'.here.running, hend, Or.inr ⟨q, rfl, E, ce, locs, hx _ hT (X'.ends _).1.alike, hcell9, hv, hcl, (X'.ends _).1, (X'.ends _).2.mono hc hs, hf⟩⟩
  rw [X.pushThrowing_eq]
  exact st
/-- a thing of a world lies in the heap -/
theorem vx_lt {D : va_G} {cl : List vw_C} {ws : va_W} {H1 : Heap} (h : va_P D cl ws H1) {k : Nat} {q : Nat × va_E} (hk : ws[k]? = some q) : q.1 < H1.size := (h k q hk).lt
end VXS
/-! ===== END ===== -/
/-! ===== BEGIN methods with a table of their own: called by a name, returning or throwing ===== -/
section VXH
/-! vx_backW, vx_callVX, vx_callSX, vx_callVW, vx_runVW, vx_runVX, vx_runSX, vx_ofWH follow the same proofs as their sisters above (Free/Laws.lean, Shelf42/LK1.lean); vx_outP calls Shelf42/NT130.lean (outThrough). -/
section
variable {l : Launch} {R : Room} {p : Program} {e : Env} {below : List Frame} {s : State} {sargs : Array Value} {y : MethodName} {len W9 : Nat}
theorem vx_backW {ws : List Cond} {rm : Room} {Pc : Array Value → State → Prop} {Qc : Array Value → State → Outcome → State → Prop} {XC : String → State → State → Prop} {mc ms : Nat} {free : Addr → Prop} {bytes : ByteArray} {maxL : Nat} {ret : Option FieldType} {hh : List (Nat × Nat × Nat × Nat)}
    (hM : vx_Met l y ws rm Pc Qc XC mc ms free) (hblind : FrameBlind Pc) (hrc : rm.cells = mc) (hrs : rm.slots = ms)
    (hframes : rm.frames + 1 ≤ R.frames) (hlocals : W9 + (maxL + 11) + rm.locals ≤ R.locals)
    (hws : ∀ w ∈ ws, ∀ a' U, s.WarmedH U.vm → w.before a' U = true) (hcode : Cond.codeWith y bytes maxL ret hh ∈ ws) (hinit : ∀ a' U, s.WarmedH U.vm → (Cond.initialized y.cls).before a' U = true) :
    vx_Back l R p e below s sargs y len W9 (PreOf R mc ms Pc) (PostOf Qc mc ms free) (vx_Post XC mc ms free) := by
  intro m meth c A g ig mk a X hg hsize hdg hW hn hp
  have h1 : (headSpec ws rm).pre.before a A.U = true := atoms_intro fun w hw => hws w hw _ _ X.warmed
  have h2 : (Cond.codeWith y bytes maxL ret hh).before a A.U = true := hws _ hcode _ _ X.warmed
  have h3 : (Cond.initialized y.cls).before a A.U = true := hinit _ _ X.warmed
  have h4 : A.cells + (headSpec ws rm).room.cells ≤ R.cells := by rw [show (headSpec ws rm).room.cells = mc from hrc]; exact hp.1
  have h5 : A.slots + (headSpec ws rm).room.slots ≤ R.slots := by rw [show (headSpec ws rm).room.slots = ms from hrs]; exact hp.2.1
  have hPc : Pc a (A.U.calling g mk a) := hblind _ _ _ _ hp.2.2
  obtain ⟨U, Ls, c0, s0⟩ := A
  dsimp only [Pt.U, Pt.locs, Pt.cells, Pt.slots] at h1 h2 h3 h4 h5 X hn hPc ⊢
  obtain ⟨m9, methY, cY, hn9, hmY, hcY, -, hlY, -⟩ := Cond.codeWith_spec h2
  cases Option.some.inj (hn9.symm.trans hn)
  obtain ⟨kY, hkY, -⟩ := className_of_methodNamed hn
  have hinitY : kY.init = .initialized := Cond.initialized_spec (findClass_of_methodNamed hn) hkY h3
  have h : At U g.method c below := by rw [hg]; exact X.here
  have hlocals9 : W9 + (maxL + 11) + (headSpec ws rm).room.locals ≤ R.locals := hlocals
  have happ : (headSpec ws rm).appliesLoose y e.platform (U.calling g mk a) = true :=
    Spec.appliesLoose_calling (g := g) h hdg hn hkY hinitY
      (X.room_calling (g := g) (R' := (headSpec ws rm).room) hsize hmY hcY hframes (by rw [hlY]; omega) h4 h5) h1
  obtain ⟨mid, hmid⟩ := h.above
  have hfr : (U.setTop g).frames = (.java g :: mid) ++ below := by rw [State.frames_setTop' g h.top, hmid]; rfl
  obtain ⟨o, s₂, hsteps, -, hend, hq⟩ := Steps.callFree hM p X.admits X.cas X.clock (acts := []) hfr happ hPc trivial
  have hq' : vx_Q Qc XC mc ms free a (U.calling g mk a) o s₂ := hq
  rw [State.frames_setTop' g h.top] at hend
  obtain ⟨g₀, hg0⟩ := Option.isSome_iff_exists.mp h.top
  obtain ⟨r, hr⟩ := State.topJava?_eq_some.mp hg0
  have hr' : (({ U with heap := s₂.heap, slotsUsed := s₂.slotsUsed } : State).setVm s₂.vm).frames = .java g₀ :: r := hr
  rcases hq' with ⟨hqc, L, hfe, hL⟩ | ⟨q, rfl, E, ce, L, hx, hce, hcv, hcl, hW₂, hsm, hL⟩
  · obtain ⟨⟨v, rfl⟩, hW₂, e2, q2, q3, q4, q5, q6⟩ := id hfe
    have e3 : s₂ = ({ (U.calling g mk a).setFrames s₂.frames with heap := s₂.heap, slotsUsed := s₂.slotsUsed } : State).setVm s₂.vm := by
      have : s₂ = ({ s₂ with vm := (U.calling g mk a).vm } : State).setVm s₂.vm := rfl
      rw [e2] at this
      exact this
    obtain ⟨c₂, i₂, len₂, hc₂, hd₂, hf₂⟩ := hend
    have hW' : U.WarmedH s₂.vm := hW₂
    have hcc : c₂ = c := by
      have h1 : s₂.code? g.method = U.code? g.method := by
        rw [State.code?_eq, State.code?_eq, hW'.alike.method?]
      exact Option.some.inj (hc₂.symm.trans (h1.trans h.code))
    subst hcc
    have hlen : len₂ = len := by rw [hdg] at hd₂; cases hd₂; rfl
    subst hlen
    have hs₂ : s₂ = (({ U with heap := s₂.heap, slotsUsed := s₂.slotsUsed } : State).setVm s₂.vm).setTop { g with pc := g.pc + len₂, stack := v.toList ++ g.stack } := by
      refine e3.trans ?_
      rw [hf₂, State.calling_eq h.top, State.setFrames_setFrames, State.setTop_of_frames _ hr', hr]
      rfl
    have hsame : U.sameButNew ({ U with heap := s₂.heap, slotsUsed := s₂.slotsUsed } : State) L mc ms := by
      refine ⟨?_, q2, q3, q4, q5, q6⟩
      obtain ⟨t, ht, -⟩ := State.frames_cons hr
      show ({ U with heap := s₂.heap, slotsUsed := s₂.slotsUsed } : State) = { U.setFrames U.frames with heap := s₂.heap, slotsUsed := s₂.slotsUsed }
      rw [State.setFrames_self ht]
    subst hg
    refine Or.inl ⟨v, ⟨(({ U with heap := s₂.heap, slotsUsed := s₂.slotsUsed } : State).setVm s₂.vm), Ls ++ L, c0 + mc, s0 + ms⟩,
      ⟨X.admits, X.cas, X.clock, X.frames, X.room, X.hears, X.method, X.code, (X.here.setHeapUsed s₂.heap s₂.slotsUsed).setVm hW'.alike, X.tail, State.WarmedH.trans X.warmed hW', X.limits, X.bytes, X.same.trans (hsame.setVm s.vm)⟩,
      ⟨g, mk, s₂, L, rfl, rfl, hqc, rfl, hL, rfl, rfl⟩, ?_⟩
    show Steps p.tables e below _ ((({ U with heap := s₂.heap, slotsUsed := s₂.slotsUsed } : State).setVm s₂.vm).setTop { g with pc := g.pc + len₂, stack := v.toList ++ g.stack })
    rw [← hs₂]
    exact hsteps
  · obtain ⟨e2, q2, q3, q4, q5, q6⟩ := id hsm
    have e3 : s₂ = ({ (U.calling g mk a).setFrames s₂.frames with heap := s₂.heap, slotsUsed := s₂.slotsUsed } : State).setVm s₂.vm := by
      have : s₂ = ({ s₂ with vm := (U.calling g mk a).vm } : State).setVm s₂.vm := rfl
      rw [e2] at this
      exact this
    have hf₂ : s₂.frames = .throwing q :: .java g :: U.frames.tail := hend
    have hW' : U.WarmedH s₂.vm := hW₂
    have hs₂ : s₂ = ((({ U with heap := s₂.heap, slotsUsed := s₂.slotsUsed } : State).setVm s₂.vm).setTop g).pushFrame (.throwing q) := by
      refine e3.trans ?_
      rw [hf₂, State.calling_eq h.top, State.setFrames_setFrames, State.pushFrame, State.frames_setTop _ hr', State.setTop_of_frames _ hr', State.setFrames_setFrames, hr]
      rfl
    have hsame : U.sameButNew ({ U with heap := s₂.heap, slotsUsed := s₂.slotsUsed } : State) L mc ms := by
      refine ⟨?_, q2, q3, q4, q5, q6⟩
      obtain ⟨t, ht, -⟩ := State.frames_cons hr
      show ({ U with heap := s₂.heap, slotsUsed := s₂.slotsUsed } : State) = { U.setFrames U.frames with heap := s₂.heap, slotsUsed := s₂.slotsUsed }
      rw [State.setFrames_self ht]
    subst hg
    refine Or.inr ⟨q, ⟨(({ U with heap := s₂.heap, slotsUsed := s₂.slotsUsed } : State).setVm s₂.vm), Ls ++ L, c0 + mc, s0 + ms⟩,
      ⟨X.admits, X.cas, X.clock, X.frames, X.room, X.hears, X.method, X.code, (X.here.setHeapUsed s₂.heap s₂.slotsUsed).setVm hW'.alike, X.tail, State.WarmedH.trans X.warmed hW', X.limits, X.bytes, X.same.trans (hsame.setVm s.vm)⟩,
      ⟨g, mk, s₂, L, E, ce, rfl, rfl, hx, hce, hcv, hcl, rfl, hL, rfl, rfl⟩, ?_⟩
    show Steps p.tables e below _ (((({ U with heap := s₂.heap, slotsUsed := s₂.slotsUsed } : State).setVm s₂.vm).setTop g).pushFrame (.throwing q))
    rw [← hs₂]
    exact hsteps
end
variable {p : Program} {l : Launch} {e : Env} {R : Room} {s : State} {m : MethodId} {args : Array Value} {below : List Frame} {meth : Method} {c : Code} {T : State} {H : Heap} {locs : List Loc} {cells slots : Nat}
theorem vx_callVX (X : Stand p l e R s m args below meth c T locs cells slots) (hexec : p.tables.exec = Jvm.exec) {own C : String} {index : Nat} {y : MethodName} {bytes : ByteArray} {maxL : Nat} {ret : Option FieldType} {hh : List (Nat × Nat × Nat × Nat)}
    (hown : s.vm.findClass own = some m.cls) (hlink : (Cond.methodLink own index y).before args s = true) (hinst : (Cond.instanceMethod y).before args s = true) (hsel : (Cond.selects C y y).before args s = true)
    (hcode : (Cond.codeWith y bytes maxL ret hh).before args s = true) (hy : y.cls ≠ "java/lang/invoke/MethodHandle" ∧ y.cls ≠ "java/lang/invoke/VarHandle")
    {W9 : Nat} {Pre : Pt → Array Value → Prop} {Post : Pt → Array Value → Option Value → Pt → Prop} {PostX : Pt → Array Value → Addr → Pt → Prop} (hK : vx_Back l R p e below s args y 3 W9 Pre Post PostX)
    {b : Addr} {cellB : Cell} (hcell : T.heap[b]? = some cellB) (hobj : cellB.vm.isStatics = false) (hcls : s.vm.findClass C = some cellB.cls)
    {g : JFrame} (hg : g.method = m) (hsize : g.locals.size = c.maxLocals) {argsL rest : List Value} (hlen : ∀ sig, parseMethodDescriptor y.desc = some sig → argsL.length = sig.parameters.length)
    (hstack : g.stack = argsL.reverse ++ .ref b :: rest) (hW : 2 * g.monitorRoom + (rest.map fun v => v.category).sum ≤ W9) (hdg : decode c.code g.pc = .ok (.invokevirtual index, 3))
    (hpre : ∀ vm₁, s.WarmedH vm₁ → Pre ⟨T.setVm vm₁, locs, cells, slots⟩ (Value.ref b :: argsL).toArray) :
    (∃ (v : Option Value) (vm₁ : Vm) (B : Pt), s.WarmedH vm₁ ∧ Stand p l e R s m args below meth c B.U B.locs B.cells B.slots ∧ Post ⟨T.setVm vm₁, locs, cells, slots⟩ (Value.ref b :: argsL).toArray v B ∧
      ∀ target, Steps p.tables e below (B.U.setTop { g with pc := g.pc + 3, stack := v.toList ++ rest }) target → Steps p.tables e below (T.setTop g) target) ∨
    (∃ (q : Addr) (vm₁ : Vm) (B : Pt), s.WarmedH vm₁ ∧ Stand p l e R s m args below meth c B.U B.locs B.cells B.slots ∧ PostX ⟨T.setVm vm₁, locs, cells, slots⟩ (Value.ref b :: argsL).toArray q B ∧
      Steps p.tables e below (T.setTop g) ((B.U.setTop { g with stack := rest }).pushFrame (.throwing q))) := by
  obtain ⟨mk, methM, hnamed, hmethM, hstM, habM⟩ := Cond.instanceMethod_spec hinst
  obtain ⟨m8, methM', cM, hn8, hmethM', -, -, -, -, -, -, hsigM⟩ := Cond.codeWith_spec hcode
  cases Option.some.inj (hn8.symm.trans hnamed)
  cases hmethM.symm.trans hmethM'
  obtain ⟨c2, r2, m2, q1, q2, q3, q4, kP, hkP, hkPi⟩ := Cond.selects_spec hsel
  cases hcls.symm.trans q1
  cases (State.methodFound?_of_named hnamed hy).symm.trans q2
  cases hnamed.symm.trans q3
  have hselP : selectMethod e.platform s.vm cellB.cls mk = .method mk := by rw [Launch.admits_selectMethod X.admits]; exact q4
  obtain ⟨vm₁, X₁, hstep₁⟩ := X.invokevirtual hexec hown hlink hnamed hmethM hstM hkP hkPi hy (a := b) (cell := cellB) hcell
    (fun z h => by rw [h] at hobj; cases hobj) hselP hmethM habM hkP hkPi (g := g) hg (argsL := argsL) (rest := rest) (hlen _ hsigM) hstack hdg
  rcases hK m meth c ⟨T.setVm vm₁, locs, cells, slots⟩ { g with stack := rest } (.invokevirtual index) mk (Value.ref b :: argsL).toArray X₁ hg hsize hdg hW (X₁.named hnamed) (hpre vm₁ X₁.warmed) with ⟨v, B, X', hpost, hsteps⟩ | ⟨q, B, X', hpost, hsteps⟩
  · exact Or.inl ⟨v, vm₁, B, X₁.warmed, X', hpost, fun target h => hstep₁ _ fun acts => by rw [doInvoke_state]; exact hsteps.trans h⟩
  · exact Or.inr ⟨q, vm₁, B, X₁.warmed, X', hpost, hstep₁ _ fun acts => by rw [doInvoke_state]; exact hsteps⟩
theorem vx_callSX (X : Stand p l e R s m args below meth c T locs cells slots) (hexec : p.tables.exec = Jvm.exec) {own : String} {index : Nat} {y : MethodName} {bytes : ByteArray} {maxL : Nat} {ret : Option FieldType} {hh : List (Nat × Nat × Nat × Nat)}
    (hown : s.vm.findClass own = some m.cls) (hlink : (Cond.methodLink own index y).before args s = true) (hstat : (Cond.static y).before args s = true) (hinit : (Cond.initialized y.cls).before args s = true)
    (hcode : (Cond.codeWith y bytes maxL ret hh).before args s = true) (hy : y.cls ≠ "java/lang/invoke/MethodHandle" ∧ y.cls ≠ "java/lang/invoke/VarHandle")
    {W9 : Nat} {Pre : Pt → Array Value → Prop} {Post : Pt → Array Value → Option Value → Pt → Prop} {PostX : Pt → Array Value → Addr → Pt → Prop} (hK : vx_Back l R p e below s args y 3 W9 Pre Post PostX)
    {g : JFrame} (hg : g.method = m) (hsize : g.locals.size = c.maxLocals) {argsL rest : List Value} (hlen : ∀ sig, parseMethodDescriptor y.desc = some sig → argsL.length = sig.parameters.length)
    (hstack : g.stack = argsL.reverse ++ rest) (hW : 2 * g.monitorRoom + (rest.map fun v => v.category).sum ≤ W9) (hdg : decode c.code g.pc = .ok (.invokestatic index, 3))
    (hpre : ∀ vm₁, s.WarmedH vm₁ → Pre ⟨T.setVm vm₁, locs, cells, slots⟩ argsL.toArray) :
    (∃ (v : Option Value) (vm₁ : Vm) (B : Pt), s.WarmedH vm₁ ∧ Stand p l e R s m args below meth c B.U B.locs B.cells B.slots ∧ Post ⟨T.setVm vm₁, locs, cells, slots⟩ argsL.toArray v B ∧
      ∀ target, Steps p.tables e below (B.U.setTop { g with pc := g.pc + 3, stack := v.toList ++ rest }) target → Steps p.tables e below (T.setTop g) target) ∨
    (∃ (q : Addr) (vm₁ : Vm) (B : Pt), s.WarmedH vm₁ ∧ Stand p l e R s m args below meth c B.U B.locs B.cells B.slots ∧ PostX ⟨T.setVm vm₁, locs, cells, slots⟩ argsL.toArray q B ∧
      Steps p.tables e below (T.setTop g) ((B.U.setTop { g with stack := rest }).pushFrame (.throwing q))) := by
  obtain ⟨mk, methM, cM, hnamed, hmethM, -, -, -, -, -, -, hsigM⟩ := Cond.codeWith_spec hcode
  have hstatic : methM.isStatic = true := Cond.static_spec hnamed hmethM hstat
  obtain ⟨kP, hkP, -⟩ := className_of_methodNamed hnamed
  have hinitP : kP.init = .initialized := Cond.initialized_spec (findClass_of_methodNamed hnamed) hkP hinit
  obtain ⟨vm₁, X₁, hstep₁⟩ := X.invokestatic hexec hown hlink hnamed hmethM hstatic hkP hinitP hy (g := g) hg (argsL := argsL) (rest := rest) (hlen _ hsigM) hstack hdg
  rcases hK m meth c ⟨T.setVm vm₁, locs, cells, slots⟩ { g with stack := rest } (.invokestatic index) mk argsL.toArray X₁ hg hsize hdg hW (X₁.named hnamed) (hpre vm₁ X₁.warmed) with ⟨v, B, X', hpost, hsteps⟩ | ⟨q, B, X', hpost, hsteps⟩
  · exact Or.inl ⟨v, vm₁, B, X₁.warmed, X', hpost, fun target h => hstep₁ _ fun acts => by rw [doInvoke_state]; exact hsteps.trans h⟩
  · exact Or.inr ⟨q, vm₁, B, X₁.warmed, X', hpost, hstep₁ _ fun acts => by rw [doInvoke_state]; exact hsteps⟩
theorem vx_callVW (X : Stand p l e R s m args below meth c T locs cells slots) (hexec : p.tables.exec = Jvm.exec) {own C : String} {index : Nat} {y : MethodName} {bytes : ByteArray} {maxL : Nat} {ret : Option FieldType} {hh : List (Nat × Nat × Nat × Nat)}
    (hown : s.vm.findClass own = some m.cls) (hlink : (Cond.methodLink own index y).before args s = true) (hinst : (Cond.instanceMethod y).before args s = true) (hsel : (Cond.selects C y y).before args s = true)
    (hcode : (Cond.codeWith y bytes maxL ret hh).before args s = true) (hy : y.cls ≠ "java/lang/invoke/MethodHandle" ∧ y.cls ≠ "java/lang/invoke/VarHandle")
    {W9 : Nat} {Pre : Pt → Array Value → Prop} {Post : Pt → Array Value → Option Value → Pt → Prop} (hK : Back l R p e below s args y 3 W9 Pre Post)
    {b : Addr} {cellB : Cell} (hcell : T.heap[b]? = some cellB) (hobj : cellB.vm.isStatics = false) (hcls : s.vm.findClass C = some cellB.cls)
    {g : JFrame} (hg : g.method = m) (hsize : g.locals.size = c.maxLocals) {argsL rest : List Value} (hlen : ∀ sig, parseMethodDescriptor y.desc = some sig → argsL.length = sig.parameters.length)
    (hstack : g.stack = argsL.reverse ++ .ref b :: rest) (hW : 2 * g.monitorRoom + (rest.map fun v => v.category).sum ≤ W9) (hdg : decode c.code g.pc = .ok (.invokevirtual index, 3))
    (hpre : ∀ vm₁, s.WarmedH vm₁ → Pre ⟨T.setVm vm₁, locs, cells, slots⟩ (Value.ref b :: argsL).toArray) :
    ∃ (v : Option Value) (vm₁ : Vm) (B : Pt), s.WarmedH vm₁ ∧ Stand p l e R s m args below meth c B.U B.locs B.cells B.slots ∧ Post ⟨T.setVm vm₁, locs, cells, slots⟩ (Value.ref b :: argsL).toArray v B ∧
      ∀ target, Steps p.tables e below (B.U.setTop { g with pc := g.pc + 3, stack := v.toList ++ rest }) target → Steps p.tables e below (T.setTop g) target := by
  obtain ⟨mk, methM, hnamed, hmethM, hstM, habM⟩ := Cond.instanceMethod_spec hinst
  obtain ⟨m8, methM', cM, hn8, hmethM', -, -, -, -, -, -, hsigM⟩ := Cond.codeWith_spec hcode
  cases Option.some.inj (hn8.symm.trans hnamed)
  cases hmethM.symm.trans hmethM'
  obtain ⟨c2, r2, m2, q1, q2, q3, q4, kP, hkP, hkPi⟩ := Cond.selects_spec hsel
  cases hcls.symm.trans q1
  cases (State.methodFound?_of_named hnamed hy).symm.trans q2
  cases hnamed.symm.trans q3
  have hselP : selectMethod e.platform s.vm cellB.cls mk = .method mk := by rw [Launch.admits_selectMethod X.admits]; exact q4
  obtain ⟨vm₁, X₁, hstep₁⟩ := X.invokevirtual hexec hown hlink hnamed hmethM hstM hkP hkPi hy (a := b) (cell := cellB) hcell
    (fun z h => by rw [h] at hobj; cases hobj) hselP hmethM habM hkP hkPi (g := g) hg (argsL := argsL) (rest := rest) (hlen _ hsigM) hstack hdg
  obtain ⟨v, B, X', hpost, hsteps⟩ := hK m meth c ⟨T.setVm vm₁, locs, cells, slots⟩ { g with stack := rest } (.invokevirtual index) mk (Value.ref b :: argsL).toArray X₁ hg hsize hdg hW (X₁.named hnamed) (hpre vm₁ X₁.warmed)
  exact ⟨v, vm₁, B, X₁.warmed, X', hpost, fun target h => hstep₁ _ fun acts => by rw [doInvoke_state]; exact hsteps.trans h⟩
abbrev vx_CVW (R : Room) (s : State) (args : Array Value) (own C : String) (index : Nat) (y : MethodName) (bytes : ByteArray) (maxL : Nat) (ret : Option FieldType) (hh : List (Nat × Nat × Nat × Nat)) (ws : List Cond) (rm : Room) (mc ms n : Nat) : Prop :=
  (rm.cells = mc ∧ rm.slots = ms ∧ rm.frames + 1 ≤ R.frames ∧ 8 + (maxL + 11) + rm.locals ≤ R.locals ∧ (∀ w ∈ ws, ∀ (a' : Array Value) (U : State), s.WarmedH U.vm → w.before a' U = true) ∧ Cond.codeWith y bytes maxL ret hh ∈ ws) ∧
  (Cond.codeWith y bytes maxL ret hh).before args s = true ∧ (Cond.initialized y.cls).before args s = true ∧ (y.cls ≠ "java/lang/invoke/MethodHandle" ∧ y.cls ≠ "java/lang/invoke/VarHandle") ∧
  (∀ sig, parseMethodDescriptor y.desc = some sig → n = sig.parameters.length) ∧ (Cond.methodLink own index y).before args s = true ∧ (Cond.instanceMethod y).before args s = true ∧ (Cond.selects C y y).before args s = true
theorem vx_cwVW {own C : String} {index maxL mc ms : Nat} {y : MethodName} {bytes : ByteArray} {ret : Option FieldType} {hh : List (Nat × Nat × Nat × Nat)} {Ts ws ws' : List Cond} {rm : Room} (n : Nat) (ht : ∀ w ∈ Ts, w.before args s = true) (hT : GoodIn Ts (wsV own index C y ws)) (hw : ws = Cond.codeWith y bytes maxL ret hh :: ws') (hrc : rm.cells = mc) (hrs : rm.slots = ms)
    (hd : y.cls = C ∧ y.cls ≠ "java/lang/invoke/MethodHandle" ∧ y.cls ≠ "java/lang/invoke/VarHandle" ∧ (parseMethodDescriptor y.desc).map (fun d => d.parameters.length) = some n) (hR : rm.frames + 1 ≤ R.frames ∧ 8 + (maxL + 11) + rm.locals ≤ R.locals) :
    vx_CVW R s args own C index y bytes maxL ret hh ws rm mc ms n := by
  obtain ⟨hC, hd⟩ := hd
  subst hC
  have ok : ∀ w ∈ wsV own index y.cls y ws, w.before args s = true := fun w h => ht w (hT w h).1
  have hG : GoodIn Ts ws := fun w h => hT w (by unfold wsV; exact List.mem_append_right _ h)
  have hc : Cond.codeWith y bytes maxL ret hh ∈ ws := by rw [hw]; exact List.mem_cons_self
  refine ⟨⟨hrc, hrs, hR.1, hR.2, pay_in ht hG, hc⟩, ht _ (hG _ hc).1, ok _ (by simp [wsV]), ⟨hd.1, hd.2.1⟩, fun sig h => ?_, ok _ (by simp [wsV]), ok _ (by simp [wsV]), ok _ (by simp [wsV])⟩
  have h2 := hd.2.2
  rw [h] at h2
  exact (Option.some.inj h2).symm
theorem vx_runVW {y : MethodName} {bytes cc : ByteArray} {maxL nL mc ms n index : Nat} {ret : Option FieldType} {hh : List (Nat × Nat × Nat × Nat)} {ws : List Cond} {rm : Room} {Pc : Array Value → State → Prop} {Qc : Array Value → State → Outcome → State → Prop} {free : Addr → Prop} {Ts : List Cond} {own C : String} {b : Addr} {As rest : List Value} {g : JFrame}
    (S : CallFix p m c cc nL s args Ts own) (hM : Met l y ws rm Pc Qc mc ms free) (cw : vx_CVW R s args own C index y bytes maxL ret hh ws rm mc ms n) (hp : PreV s H C b Pc As)
    (hg : g.method = m) (hn : As.length = n) (hsize : g.locals.size = nL) (hstack : g.stack = As.reverse ++ .ref b :: rest) (hW : 2 * g.monitorRoom + (rest.map fun v => v.category).sum ≤ 8) (hdg : decode cc g.pc = .ok (.invokevirtual index, 3)) (hf : cells + mc ≤ R.cells ∧ slots + ms ≤ R.slots) :
    va_Run p l e R s m args below meth c H locs cells slots mc ms g rest (Qc (Value.ref b :: As).toArray) free := by
  obtain ⟨⟨hrc, hrs, hfr, hlo, hws, hcw⟩, hcode, hini, hy, hlen, hl, hin, hse⟩ := cw
  have hK : Back l R p e below s args y 3 8 (PreOf R mc ms Pc) (PostOf Qc mc ms free) := va_backW (hh := hh) (bytes := bytes) (maxL := maxL) (ret := ret) hM hp.1 hrc hrs hfr hlo hws hcw (fun a' U hW => word_at hW (Or.inl (by first | rfl | simp [Cond.onTables, Cond.keeps, Cond.steady])) hini)
  obtain ⟨hx, hb, hml, ho, -⟩ := S
  obtain ⟨-, ⟨cellB, hcB, hoB, hclB⟩, hPc⟩ := hp
  intro T hT X
  obtain ⟨v, vm₁, ⟨U', l2, c2, s2⟩, hW₁, X', ⟨g', mk, t, L, e1, e2, hq, h1, hL, h2, h3⟩, st⟩ := vx_callVW X hx (C := C) (hh := hh) (bytes := bytes) (maxL := maxL) (ret := ret) ho hl hin hse hcode hy hK (by rw [hT]; exact hcB) hoB hclB hg (hsize.trans hml.symm) (argsL := As) (rest := rest) (fun sig h => hn.trans (hlen sig h)) hstack hW (by rw [hb]; exact hdg)
    (fun vm₁ hW₁ => ⟨hf.1, hf.2, hPc (T.setVm vm₁) hT hW₁⟩)
  dsimp only [Pt.U, Pt.locs, Pt.cells, Pt.slots] at X' e1 e2 h1 h2 h3 st
  subst h1; subst h2; subst h3
  exact ⟨v, (T.setVm vm₁).calling g' mk (Value.ref b :: As).toArray, t, U', L, hT, X', hL, e1, e2, hq, st⟩
section
variable {y : MethodName} {bytes cc : ByteArray} {maxL nL mc ms n index : Nat} {ret : Option FieldType} {ws : List Cond} {rm : Room} {Pc : Array Value → State → Prop} {Qc : Array Value → State → Outcome → State → Prop} {XC : String → State → State → Prop} {free : Addr → Prop} {Ts : List Cond} {own C : String} {b : Addr} {As rest : List Value} {g : JFrame}
theorem vx_runVX {hh : List (Nat × Nat × Nat × Nat)} (S : CallFix p m c cc nL s args Ts own) (hM : vx_Met l y ws rm Pc Qc XC mc ms free) (cw : vx_CVW R s args own C index y bytes maxL ret hh ws rm mc ms n) (hp : PreV s H C b Pc As)
    (hg : g.method = m) (hn : As.length = n) (hsize : g.locals.size = nL) (hstack : g.stack = As.reverse ++ .ref b :: rest) (hW : 2 * g.monitorRoom + (rest.map fun v => v.category).sum ≤ 8) (hdg : decode cc g.pc = .ok (.invokevirtual index, 3)) (hf : cells + mc ≤ R.cells ∧ slots + ms ≤ R.slots) :
    vx_Run p l e R s m args below meth c H locs cells slots mc ms g rest (Qc (Value.ref b :: As).toArray) XC free := by
  obtain ⟨⟨hrc, hrs, hfr, hlo, hws, hcw⟩, hcode, hini, hy, hlen, hl, hin, hse⟩ := cw
  have hK : vx_Back l R p e below s args y 3 8 (PreOf R mc ms Pc) (PostOf Qc mc ms free) (vx_Post XC mc ms free) := vx_backW (hh := hh) (bytes := bytes) (maxL := maxL) (ret := ret) hM hp.1 hrc hrs hfr hlo hws hcw (fun a' U hW => word_at hW (Or.inl (by first | rfl | simp [Cond.onTables, Cond.keeps, Cond.steady])) hini)
  obtain ⟨hx, hb, hml, ho, -⟩ := S
  obtain ⟨-, ⟨cellB, hcB, hoB, hclB⟩, hPc⟩ := hp
  intro T hT X
  rcases vx_callVX X hx (C := C) (hh := hh) (bytes := bytes) (maxL := maxL) (ret := ret) ho hl hin hse hcode hy hK (by rw [hT]; exact hcB) hoB hclB hg (hsize.trans hml.symm) (argsL := As) (rest := rest) (fun sig h => hn.trans (hlen sig h)) hstack hW (by rw [hb]; exact hdg)
    (fun vm₁ hW₁ => ⟨hf.1, hf.2, hPc (T.setVm vm₁) hT hW₁⟩) with ⟨v, vm₁, ⟨U', l2, c2, s2⟩, hW₁, X', ⟨g', mk, t, L, e1, e2, hq, h1, hL, h2, h3⟩, st⟩ | ⟨q, vm₁, ⟨U', l2, c2, s2⟩, hW₁, X', ⟨g', mk, t, L, E, ce, e1, e2, hq, hce, hcv, hcl, h1, hL, h2, h3⟩, st⟩
  · dsimp only [Pt.U, Pt.locs, Pt.cells, Pt.slots] at X' e1 e2 h1 h2 h3 st
    subst h1; subst h2; subst h3
    exact Or.inl ⟨v, (T.setVm vm₁).calling g' mk (Value.ref b :: As).toArray, t, U', L, hT, X', hL, e1, e2, hq, st⟩
  · dsimp only [Pt.U, Pt.locs, Pt.cells, Pt.slots] at X' e1 e2 h1 h2 h3 st hcl
    subst h1; subst h2; subst h3
    exact Or.inr ⟨q, (T.setVm vm₁).calling g' mk (Value.ref b :: As).toArray, t, U', L, E, ce, hT, X', hL, e1, e2, hq, hce, hcv, vx_cls hW₁ hcl, st⟩
theorem vx_runSX {hh : List (Nat × Nat × Nat × Nat)} (S : CallFix p m c cc nL s args Ts own) (hM : vx_Met l y ws rm Pc Qc XC mc ms free) (cw : vx_CSW R s args own index y bytes maxL ret hh ws rm mc ms n) (hp : PreS s H Pc As)
    (hg : g.method = m) (hn : As.length = n) (hsize : g.locals.size = nL) (hstack : g.stack = As.reverse ++ rest) (hW : 2 * g.monitorRoom + (rest.map fun v => v.category).sum ≤ 8) (hdg : decode cc g.pc = .ok (.invokestatic index, 3)) (hf : cells + mc ≤ R.cells ∧ slots + ms ≤ R.slots) :
    vx_Run p l e R s m args below meth c H locs cells slots mc ms g rest (Qc As.toArray) XC free := by
  obtain ⟨⟨hrc, hrs, hfr, hlo, hws, hcw⟩, hcode, hini, hy, hlen, hl, hstt⟩ := cw
  have hK : vx_Back l R p e below s args y 3 8 (PreOf R mc ms Pc) (PostOf Qc mc ms free) (vx_Post XC mc ms free) := vx_backW (hh := hh) (bytes := bytes) (maxL := maxL) (ret := ret) hM hp.1 hrc hrs hfr hlo hws hcw (fun a' U hW => word_at hW (Or.inl (by first | rfl | simp [Cond.onTables, Cond.keeps, Cond.steady])) hini)
  obtain ⟨hx, hb, hml, ho, -⟩ := S
  intro T hT X
  rcases vx_callSX X hx (hh := hh) (bytes := bytes) (maxL := maxL) (ret := ret) ho hl hstt hini hcode hy hK hg (hsize.trans hml.symm) (argsL := As) (rest := rest) (fun sig h => hn.trans (hlen sig h)) hstack hW (by rw [hb]; exact hdg)
    (fun vm₁ hW₁ => ⟨hf.1, hf.2, hp.2 (T.setVm vm₁) hT hW₁⟩) with ⟨v, vm₁, ⟨U', l2, c2, s2⟩, hW₁, X', ⟨g', mk, t, L, e1, e2, hq, h1, hL, h2, h3⟩, st⟩ | ⟨q, vm₁, ⟨U', l2, c2, s2⟩, hW₁, X', ⟨g', mk, t, L, E, ce, e1, e2, hq, hce, hcv, hcl, h1, hL, h2, h3⟩, st⟩
  · dsimp only [Pt.U, Pt.locs, Pt.cells, Pt.slots] at X' e1 e2 h1 h2 h3 st
    subst h1; subst h2; subst h3
    exact Or.inl ⟨v, (T.setVm vm₁).calling g' mk As.toArray, t, U', L, hT, X', hL, e1, e2, hq, st⟩
  · dsimp only [Pt.U, Pt.locs, Pt.cells, Pt.slots] at X' e1 e2 h1 h2 h3 st hcl
    subst h1; subst h2; subst h3
    exact Or.inr ⟨q, (T.setVm vm₁).calling g' mk As.toArray, t, U', L, E, ce, hT, X', hL, e1, e2, hq, hce, hcv, vx_cls hW₁ hcl, st⟩
end
end VXH
theorem vx_ofWH {l : Launch} {y : MethodName} {ws ws' : List Cond} {rm : Room} {Pc : Array Value → State → Prop} {Qc : Array Value → State → Outcome → State → Prop} {XC : String → State → State → Prop} {mc ms : Nat} {free : Addr → Prop} {cc : ByteArray} {maxL : Nat} {ret : Option FieldType} {hh : List (Nat × Nat × Nat × Nat)}
    (hy : plainName y.cls = true) (hw : ws = Cond.codeWith y cc maxL ret hh :: ws')
    (body : ∀ p e s m args below meth c s₁, BodyLoose p l y (headSpec ws rm) cc maxL ret e s m args below meth c s₁ → c.maxLocals = maxL → Pc args s →
      W p l e (headSpec ws rm).room s m args below meth c s.heap [] 0 0 (vx_MQ below Qc XC args s mc ms free) (entryFrame m args maxL)) : vx_Met l y ws rm Pc Qc XC mc ms free := by
  refine MetFree.of_bodyS (code := cc) (maxLocals := maxL) (ret := ret) hy ?_ ?_
  · intro args s m h hn
    obtain ⟨m9, meth, c, hn9, h1, h2, h3, h4, -, h5, h6, -⟩ := Cond.codeWith_spec (atoms_spec (ws := ws) h _ (by rw [hw]; exact List.mem_cons_self))
    cases hn.symm.trans hn9
    exact ⟨meth, c, h1, h2, h3, h4, h5, h6⟩
  · intro p e s m args below meth c s₁ B hml hP _
    have hh0 : s₁.heap = s.heap := by rw [B.state]; rfl
    obtain ⟨t, a1, o, b1, b2, b3⟩ := body p e s m args below meth c s₁ B hml hP s₁ hh0 (Stand.of_body B)
    exact ⟨t, o, a1, b1, b2, b3⟩
/-! ===== END ===== -/

def RX0 : String := "VillagePhotos$Archive"
def TX0 : u_T := fun k => match k with
  | 0 => ("VillagePhotos$Archive", "tiles", "I", false)
  | 1 => ("VillagePhotos$Archive", "families", "I", false)
  | 2 => ("VillagePhotos$Archive", "pictures", "I", false)
  | 3 => ("VillagePhotos$Archive", "questions", "I", false)
  | 4 => ("VillagePhotos$Archive", "repairs", "I", false)
  | 5 => ("VillagePhotos$Archive", "familyNames", "[J", true)
  | 6 => ("VillagePhotos$Archive", "rooms", "[I", true)
  | 7 => ("VillagePhotos$Archive", "near", "[I", true)
  | 8 => ("VillagePhotos$Archive", "right", "[I", true)
  | 9 => ("VillagePhotos$Archive", "wrong", "[I", true)
  | 10 => ("VillagePhotos$Archive", "copies", "[I", true)
  | 11 => ("VillagePhotos$Archive", "pictureNames", "[J", true)
  | 12 => ("VillagePhotos$Archive", "pledges", "[I", true)
  | 13 => ("VillagePhotos$Archive", "held", "[I", true)
  | 14 => ("VillagePhotos$Archive", "broken", "[I", true)
  | _ => ("VillagePhotos$Archive", "spoiled", "[I", true)
def tyX0 : Nat → FieldType := fun k => match k with
  | 0 => .int
  | 1 => .int
  | 2 => .int
  | 3 => .int
  | 4 => .int
  | 5 => .array .long
  | 6 => .array .int
  | 7 => .array .int
  | 8 => .array .int
  | 9 => .array .int
  | 10 => .array .int
  | 11 => .array .long
  | 12 => .array .int
  | 13 => .array .int
  | 14 => .array .int
  | _ => .array .int
abbrev wsX00 : List Cond := u_ws RX0 TX0 16
theorem nmX0 : ∀ a, a < 16 → ∀ b, b < 16 → a ≠ b → (TX0 a).2.1 ≠ (TX0 b).2.1 := by decide +kernel
theorem tyX0_ok : ∀ k, k < 16 → parseFieldDescriptor (TX0 k).2.2.1 = some (tyX0 k) := by decide +kernel
abbrev cX0_init : ByteArray := prog_2_method_1_code
def yX0_init : MethodName := ⟨RX0, "<init>", "()V"⟩
abbrev cX0_startEmpty : ByteArray := prog_2_method_2_code
def yX0_startEmpty : MethodName := ⟨RX0, "startEmpty", "(I)V"⟩
abbrev cX0_takeFrom : ByteArray := prog_2_method_3_code
def yX0_takeFrom : MethodName := ⟨RX0, "takeFrom", "(LVillagePhotos$Archive;)V"⟩
abbrev cX0_addFamily : ByteArray := prog_2_method_4_code
def yX0_addFamily : MethodName := ⟨RX0, "addFamily", "(JI)V"⟩
abbrev cX0_addPicture : ByteArray := prog_2_method_5_code
def yX0_addPicture : MethodName := ⟨RX0, "addPicture", "(JI)V"⟩
abbrev cX0_addCopy : ByteArray := prog_2_method_6_code
def yX0_addCopy : MethodName := ⟨RX0, "addCopy", "(III)V"⟩
abbrev cX0_removeFamily : ByteArray := prog_2_method_7_code
def yX0_removeFamily : MethodName := ⟨RX0, "removeFamily", "(I)V"⟩
abbrev cX0_dropRow : ByteArray := prog_2_method_8_code
def yX0_dropRow : MethodName := ⟨RX0, "dropRow", "([III)V"⟩
abbrev cX0_withoutBit : ByteArray := prog_2_method_9_code
def yX0_withoutBit : MethodName := ⟨RX0, "withoutBit", "(II)I"⟩
abbrev cX0_cell : ByteArray := prog_2_method_10_code
def yX0_cell : MethodName := ⟨RX0, "cell", "(II)I"⟩
abbrev cX0_allTiles : ByteArray := prog_2_method_11_code
def yX0_allTiles : MethodName := ⟨RX0, "allTiles", "()I"⟩
abbrev cX0_spoiledTiles : ByteArray := prog_2_method_12_code
def yX0_spoiledTiles : MethodName := ⟨RX0, "spoiledTiles", "(II)I"⟩
abbrev cX0_isHeld : ByteArray := prog_2_method_13_code
def yX0_isHeld : MethodName := ⟨RX0, "isHeld", "(II)Z"⟩
abbrev cX0_hasCopy : ByteArray := prog_2_method_14_code
def yX0_hasCopy : MethodName := ⟨RX0, "hasCopy", "(II)Z"⟩
abbrev cX0_areNeighbours : ByteArray := prog_2_method_15_code
def yX0_areNeighbours : MethodName := ⟨RX0, "areNeighbours", "(II)Z"⟩
abbrev cX0_makeNeighbours : ByteArray := prog_2_method_16_code
def yX0_makeNeighbours : MethodName := ⟨RX0, "makeNeighbours", "(II)V"⟩
abbrev cX0_neighbourPairs : ByteArray := prog_2_method_17_code
def yX0_neighbourPairs : MethodName := ⟨RX0, "neighbourPairs", "()I"⟩
abbrev cX0_allCopies : ByteArray := prog_2_method_18_code
def yX0_allCopies : MethodName := ⟨RX0, "allCopies", "()I"⟩
abbrev cX0_heldCopies : ByteArray := prog_2_method_19_code
def yX0_heldCopies : MethodName := ⟨RX0, "heldCopies", "()I"⟩
abbrev cX0_brokenCopies : ByteArray := prog_2_method_20_code
def yX0_brokenCopies : MethodName := ⟨RX0, "brokenCopies", "()I"⟩
abbrev cX0_unsoundCopies : ByteArray := prog_2_method_21_code
def yX0_unsoundCopies : MethodName := ⟨RX0, "unsoundCopies", "()I"⟩
abbrev cX0_brokenCopiesOf : ByteArray := prog_2_method_22_code
def yX0_brokenCopiesOf : MethodName := ⟨RX0, "brokenCopiesOf", "(I)I"⟩
abbrev cX0_soundHolders : ByteArray := prog_2_method_23_code
def yX0_soundHolders : MethodName := ⟨RX0, "soundHolders", "(I)I"⟩
abbrev cX0_isInDanger : ByteArray := prog_2_method_24_code
def yX0_isInDanger : MethodName := ⟨RX0, "isInDanger", "(I)Z"⟩
abbrev cX0_isTrulyInDanger : ByteArray := prog_2_method_25_code
def yX0_isTrulyInDanger : MethodName := ⟨RX0, "isTrulyInDanger", "(I)Z"⟩
abbrev cX0_picturesInDanger : ByteArray := prog_2_method_26_code
def yX0_picturesInDanger : MethodName := ⟨RX0, "picturesInDanger", "()I"⟩
abbrev cX0_picturesTrulyInDanger : ByteArray := prog_2_method_27_code
def yX0_picturesTrulyInDanger : MethodName := ⟨RX0, "picturesTrulyInDanger", "()I"⟩
abbrev cX0_spoilCopiesOf : ByteArray := prog_2_method_28_code
def yX0_spoilCopiesOf : MethodName := ⟨RX0, "spoilCopiesOf", "(II)V"⟩
abbrev cX0_trustOf : ByteArray := prog_2_method_29_code
def yX0_trustOf : MethodName := ⟨RX0, "trustOf", "(I)I"⟩
abbrev cX0_answersRight : ByteArray := prog_2_method_30_code
def yX0_answersRight : MethodName := ⟨RX0, "answersRight", "(III)Z"⟩
abbrev cX0_askRound : ByteArray := prog_2_method_31_code
def yX0_askRound : MethodName := ⟨RX0, "askRound", "(I)I"⟩
abbrev cX0_tileFor : ByteArray := prog_2_method_32_code
def yX0_tileFor : MethodName := ⟨RX0, "tileFor", "(I)I"⟩
abbrev cX0_chanceOfRightAnswers : ByteArray := prog_2_method_33_code
def yX0_chanceOfRightAnswers : MethodName := ⟨RX0, "chanceOfRightAnswers", "(III)D"⟩
abbrev cX0_mostSpoiledTile : ByteArray := prog_2_method_34_code
def yX0_mostSpoiledTile : MethodName := ⟨RX0, "mostSpoiledTile", "(I)I"⟩
abbrev cX0_heldCopiesSpoiledAt : ByteArray := prog_2_method_35_code
def yX0_heldCopiesSpoiledAt : MethodName := ⟨RX0, "heldCopiesSpoiledAt", "(II)I"⟩
abbrev cX0_sourcesOf : ByteArray := prog_2_method_36_code
def yX0_sourcesOf : MethodName := ⟨RX0, "sourcesOf", "(II)I"⟩
abbrev cX0_spoiledInAll : ByteArray := prog_2_method_37_code
def yX0_spoiledInAll : MethodName := ⟨RX0, "spoiledInAll", "(II)I"⟩
abbrev cX0_mendCopy : ByteArray := prog_2_method_38_code
def yX0_mendCopy : MethodName := ⟨RX0, "mendCopy", "(III)V"⟩
abbrev cX0_repairAtOnce : ByteArray := prog_2_method_39_code
def yX0_repairAtOnce : MethodName := ⟨RX0, "repairAtOnce", "()I"⟩
abbrev cX0_repairInWaves : ByteArray := prog_2_method_40_code
def yX0_repairInWaves : MethodName := ⟨RX0, "repairInWaves", "()I"⟩
abbrev cX0_neededHolders : ByteArray := prog_2_method_41_code
def yX0_neededHolders : MethodName := ⟨RX0, "neededHolders", "(I)I"⟩
abbrev cX0_picturesThatNeed : ByteArray := prog_2_method_42_code
def yX0_picturesThatNeed : MethodName := ⟨RX0, "picturesThatNeed", "(I)I"⟩
abbrev cX0_reachedFrom : ByteArray := prog_2_method_43_code
def yX0_reachedFrom : MethodName := ⟨RX0, "reachedFrom", "(I)I"⟩
abbrev cX0_makeCopies : ByteArray := prog_2_method_44_code
def yX0_makeCopies : MethodName := ⟨RX0, "makeCopies", "()I"⟩
abbrev cX0_dangerBehindCopies : ByteArray := prog_2_method_45_code
def yX0_dangerBehindCopies : MethodName := ⟨RX0, "dangerBehindCopies", "()I"⟩
abbrev cX0_bestNewHolder : ByteArray := prog_2_method_46_code
def yX0_bestNewHolder : MethodName := ⟨RX0, "bestNewHolder", "(I)I"⟩
abbrev cX0_isBetterHolder : ByteArray := prog_2_method_47_code
def yX0_isBetterHolder : MethodName := ⟨RX0, "isBetterHolder", "(II)Z"⟩
abbrev cX0_roomLeft : ByteArray := prog_2_method_48_code
def yX0_roomLeft : MethodName := ⟨RX0, "roomLeft", "(I)I"⟩
def RX1 : String := "VillagePhotos$History"
def TX1 : u_T := fun k => match k with
  | 0 => ("VillagePhotos$History", "kept", "[LVillagePhotos$Archive;", true)
  | 1 => ("VillagePhotos$History", "next", "I", false)
  | _ => ("VillagePhotos$History", "size", "I", false)
def tyX1 : Nat → FieldType := fun k => match k with
  | 0 => .array (.object "VillagePhotos$Archive")
  | 1 => .int
  | _ => .int
abbrev wsX10 : List Cond := u_ws RX1 TX1 3
theorem nmX1 : ∀ a, a < 3 → ∀ b, b < 3 → a ≠ b → (TX1 a).2.1 ≠ (TX1 b).2.1 := by decide +kernel
theorem tyX1_ok : ∀ k, k < 3 → parseFieldDescriptor (TX1 k).2.2.1 = some (tyX1 k) := by decide +kernel
abbrev cX1_init : ByteArray := prog_3_method_1_code
def yX1_init : MethodName := ⟨RX1, "<init>", "()V"⟩
abbrev cX1_keep : ByteArray := prog_3_method_2_code
def yX1_keep : MethodName := ⟨RX1, "keep", "(LVillagePhotos$Archive;)V"⟩
abbrev cX1_giveBack : ByteArray := prog_3_method_3_code
def yX1_giveBack : MethodName := ⟨RX1, "giveBack", "(LVillagePhotos$Archive;)Z"⟩
def RX2 : String := "VillagePhotos$Names"
def TX2 : u_T := fun k => match k with
  | _ => ("", "", "", false)
def tyX2 : Nat → FieldType := fun k => match k with
  | _ => .int
abbrev wsX20 : List Cond := u_ws RX2 TX2 0
theorem nmX2 : ∀ a, a < 0 → ∀ b, b < 0 → a ≠ b → (TX2 a).2.1 ≠ (TX2 b).2.1 := by decide +kernel
theorem tyX2_ok : ∀ k, k < 0 → parseFieldDescriptor (TX2 k).2.2.1 = some (tyX2 k) := by decide +kernel
abbrev cX2_withSign : ByteArray := prog_4_method_2_code
def yX2_withSign : MethodName := ⟨RX2, "withSign", "(JI)J"⟩
abbrev cX2_signFromEnd : ByteArray := prog_4_method_3_code
def yX2_signFromEnd : MethodName := ⟨RX2, "signFromEnd", "(JI)I"⟩
def RX3 : String := "VillagePhotos$PictureWriter"
def TX3 : u_T := fun k => match k with
  | 0 => ("VillagePhotos$PictureWriter", "bytes", "[B", true)
  | _ => ("VillagePhotos$PictureWriter", "length", "I", false)
def tyX3 : Nat → FieldType := fun k => match k with
  | 0 => .array .byte
  | _ => .int
abbrev wsX30 : List Cond := u_ws RX3 TX3 2
theorem nmX3 : ∀ a, a < 2 → ∀ b, b < 2 → a ≠ b → (TX3 a).2.1 ≠ (TX3 b).2.1 := by decide +kernel
theorem tyX3_ok : ∀ k, k < 2 → parseFieldDescriptor (TX3 k).2.2.1 = some (tyX3 k) := by decide +kernel
abbrev cX3_init : ByteArray := prog_5_method_1_code
def yX3_init : MethodName := ⟨RX3, "<init>", "()V"⟩
abbrev cX3_writeAll : ByteArray := prog_5_method_2_code
def yX3_writeAll : MethodName := ⟨RX3, "writeAll", "(LVillagePhotos$Archive;)I"⟩
abbrev cX3_putHolders : ByteArray := prog_5_method_3_code
def yX3_putHolders : MethodName := ⟨RX3, "putHolders", "(LVillagePhotos$Archive;I)V"⟩
abbrev cX3_putName : ByteArray := prog_5_method_4_code
def yX3_putName : MethodName := ⟨RX3, "putName", "(J)V"⟩
abbrev cX3_putSign : ByteArray := prog_5_method_5_code
def yX3_putSign : MethodName := ⟨RX3, "putSign", "(I)V"⟩
def RX4 : String := "VillagePhotos$TextReader"
def TX4 : u_T := fun k => match k with
  | 0 => ("VillagePhotos$TextReader", "text", "[B", true)
  | 1 => ("VillagePhotos$TextReader", "length", "I", false)
  | 2 => ("VillagePhotos$TextReader", "errorCode", "I", false)
  | 3 => ("VillagePhotos$TextReader", "errorAt", "I", false)
  | 4 => ("VillagePhotos$TextReader", "position", "I", false)
  | 5 => ("VillagePhotos$TextReader", "tokenAt", "I", false)
  | 6 => ("VillagePhotos$TextReader", "number", "I", false)
  | _ => ("VillagePhotos$TextReader", "name", "J", false)
def tyX4 : Nat → FieldType := fun k => match k with
  | 0 => .array .byte
  | 1 => .int
  | 2 => .int
  | 3 => .int
  | 4 => .int
  | 5 => .int
  | 6 => .int
  | _ => .long
abbrev wsX40 : List Cond := u_ws RX4 TX4 8
theorem nmX4 : ∀ a, a < 8 → ∀ b, b < 8 → a ≠ b → (TX4 a).2.1 ≠ (TX4 b).2.1 := by decide +kernel
theorem tyX4_ok : ∀ k, k < 8 → parseFieldDescriptor (TX4 k).2.2.1 = some (tyX4 k) := by decide +kernel
abbrev cX4_init : ByteArray := prog_6_method_1_code
def yX4_init : MethodName := ⟨RX4, "<init>", "()V"⟩
abbrev cX4_putBytes : ByteArray := prog_6_method_2_code
def yX4_putBytes : MethodName := ⟨RX4, "putBytes", "(I)V"⟩
abbrev cX4_readText : ByteArray := prog_6_method_3_code
def yX4_readText : MethodName := ⟨RX4, "readText", "(LVillagePhotos$Archive;)Z"⟩
abbrev cX4_readHead : ByteArray := prog_6_method_4_code
def yX4_readHead : MethodName := ⟨RX4, "readHead", "(LVillagePhotos$Archive;)Z"⟩
abbrev cX4_readFamily : ByteArray := prog_6_method_5_code
def yX4_readFamily : MethodName := ⟨RX4, "readFamily", "(LVillagePhotos$Archive;)Z"⟩
abbrev cX4_readNeighbours : ByteArray := prog_6_method_6_code
def yX4_readNeighbours : MethodName := ⟨RX4, "readNeighbours", "(LVillagePhotos$Archive;)Z"⟩
abbrev cX4_readPicture : ByteArray := prog_6_method_7_code
def yX4_readPicture : MethodName := ⟨RX4, "readPicture", "(LVillagePhotos$Archive;)Z"⟩
abbrev cX4_readCopy : ByteArray := prog_6_method_8_code
def yX4_readCopy : MethodName := ⟨RX4, "readCopy", "(LVillagePhotos$Archive;I)Z"⟩
abbrev cX4_needTiles : ByteArray := prog_6_method_9_code
def yX4_needTiles : MethodName := ⟨RX4, "needTiles", "(I)I"⟩
abbrev cX4_needFamilyName : ByteArray := prog_6_method_10_code
def yX4_needFamilyName : MethodName := ⟨RX4, "needFamilyName", "(LVillagePhotos$Archive;)I"⟩
abbrev cX4_placeOf : ByteArray := prog_6_method_11_code
def yX4_placeOf : MethodName := ⟨RX4, "placeOf", "([JI)I"⟩
abbrev cX4_fail : ByteArray := prog_6_method_12_code
def yX4_fail : MethodName := ⟨RX4, "fail", "(II)Z"⟩
abbrev cX4_skipSpaces : ByteArray := prog_6_method_13_code
def yX4_skipSpaces : MethodName := ⟨RX4, "skipSpaces", "()V"⟩
abbrev cX4_wordEnd : ByteArray := prog_6_method_14_code
def yX4_wordEnd : MethodName := ⟨RX4, "wordEnd", "()I"⟩
abbrev cX4_takeWord : ByteArray := prog_6_method_15_code
def yX4_takeWord : MethodName := ⟨RX4, "takeWord", "(Ljava/lang/String;)Z"⟩
abbrev cX4_needWord : ByteArray := prog_6_method_16_code
def yX4_needWord : MethodName := ⟨RX4, "needWord", "(Ljava/lang/String;)Z"⟩
abbrev cX4_needName : ByteArray := prog_6_method_17_code
def yX4_needName : MethodName := ⟨RX4, "needName", "()Z"⟩
abbrev cX4_isDigitNext : ByteArray := prog_6_method_18_code
def yX4_isDigitNext : MethodName := ⟨RX4, "isDigitNext", "()Z"⟩
abbrev cX4_isDigitAt : ByteArray := prog_6_method_19_code
def yX4_isDigitAt : MethodName := ⟨RX4, "isDigitAt", "(I)Z"⟩
abbrev cX4_needNumber : ByteArray := prog_6_method_20_code
def yX4_needNumber : MethodName := ⟨RX4, "needNumber", "(II)Z"⟩
abbrev cX4_needSemicolon : ByteArray := prog_6_method_21_code
def yX4_needSemicolon : MethodName := ⟨RX4, "needSemicolon", "()Z"⟩
abbrev cX4_needEnd : ByteArray := prog_6_method_22_code
def yX4_needEnd : MethodName := ⟨RX4, "needEnd", "()Z"⟩
def RX5 : String := "VillagePhotos"
def TX5 : u_T := fun k => match k with
  | 0 => ("VillagePhotos", "present", "LVillagePhotos$Archive;", true)
  | 1 => ("VillagePhotos", "trial", "LVillagePhotos$Archive;", true)
  | 2 => ("VillagePhotos", "history", "LVillagePhotos$History;", true)
  | 3 => ("VillagePhotos", "saved", "[LVillagePhotos$Archive;", true)
  | 4 => ("VillagePhotos", "reader", "LVillagePhotos$TextReader;", true)
  | _ => ("VillagePhotos", "writer", "LVillagePhotos$PictureWriter;", true)
def tyX5 : Nat → FieldType := fun k => match k with
  | 0 => .object "VillagePhotos$Archive"
  | 1 => .object "VillagePhotos$Archive"
  | 2 => .object "VillagePhotos$History"
  | 3 => .array (.object "VillagePhotos$Archive")
  | 4 => .object "VillagePhotos$TextReader"
  | _ => .object "VillagePhotos$PictureWriter"
abbrev wsX50 : List Cond := u_ws RX5 TX5 6
theorem nmX5 : ∀ a, a < 6 → ∀ b, b < 6 → a ≠ b → (TX5 a).2.1 ≠ (TX5 b).2.1 := by decide +kernel
theorem tyX5_ok : ∀ k, k < 6 → parseFieldDescriptor (TX5 k).2.2.1 = some (tyX5 k) := by decide +kernel
abbrev cX5_init : ByteArray := prog_1_method_1_code
def yX5_init : MethodName := ⟨RX5, "<init>", "()V"⟩
abbrev cX5_append : ByteArray := prog_1_method_2_code
def yX5_append : MethodName := ⟨RX5, "append", "(IIIII)I"⟩
abbrev cX5_load : ByteArray := prog_1_method_3_code
def yX5_load : MethodName := ⟨RX5, "load", "()I"⟩
abbrev cX5_errorPosition : ByteArray := prog_1_method_4_code
def yX5_errorPosition : MethodName := ⟨RX5, "errorPosition", "()I"⟩
abbrev cX5_count : ByteArray := prog_1_method_5_code
def yX5_count : MethodName := ⟨RX5, "count", "(I)I"⟩
abbrev cX5_family : ByteArray := prog_1_method_6_code
def yX5_family : MethodName := ⟨RX5, "family", "(II)I"⟩
abbrev cX5_picture : ByteArray := prog_1_method_7_code
def yX5_picture : MethodName := ⟨RX5, "picture", "(II)I"⟩
abbrev cX5_copy : ByteArray := prog_1_method_8_code
def yX5_copy : MethodName := ⟨RX5, "copy", "(II)I"⟩
abbrev cX5_why : ByteArray := prog_1_method_9_code
def yX5_why : MethodName := ⟨RX5, "why", "(II)I"⟩
abbrev cX5_chance : ByteArray := prog_1_method_10_code
def yX5_chance : MethodName := ⟨RX5, "chance", "(III)D"⟩
abbrev cX5_bestTile : ByteArray := prog_1_method_11_code
def yX5_bestTile : MethodName := ⟨RX5, "bestTile", "(I)I"⟩
abbrev cX5_roundsToFind : ByteArray := prog_1_method_12_code
def yX5_roundsToFind : MethodName := ⟨RX5, "roundsToFind", "(I)I"⟩
abbrev cX5_leastTrusted : ByteArray := prog_1_method_13_code
def yX5_leastTrusted : MethodName := ⟨RX5, "leastTrusted", "()I"⟩
abbrev cX5_sources : ByteArray := prog_1_method_14_code
def yX5_sources : MethodName := ⟨RX5, "sources", "(II)I"⟩
abbrev cX5_wouldGet : ByteArray := prog_1_method_15_code
def yX5_wouldGet : MethodName := ⟨RX5, "wouldGet", "(II)I"⟩
abbrev cX5_waves : ByteArray := prog_1_method_16_code
def yX5_waves : MethodName := ⟨RX5, "waves", "()I"⟩
abbrev cX5_lost : ByteArray := prog_1_method_17_code
def yX5_lost : MethodName := ⟨RX5, "lost", "()I"⟩
abbrev cX5_depends : ByteArray := prog_1_method_18_code
def yX5_depends : MethodName := ⟨RX5, "depends", "(I)I"⟩
abbrev cX5_mostNeeded : ByteArray := prog_1_method_19_code
def yX5_mostNeeded : MethodName := ⟨RX5, "mostNeeded", "()I"⟩
abbrev cX5_reach : ByteArray := prog_1_method_20_code
def yX5_reach : MethodName := ⟨RX5, "reach", "(I)I"⟩
abbrev cX5_wouldSpread : ByteArray := prog_1_method_21_code
def yX5_wouldSpread : MethodName := ⟨RX5, "wouldSpread", "()I"⟩
abbrev cX5_bestPair : ByteArray := prog_1_method_22_code
def yX5_bestPair : MethodName := ⟨RX5, "bestPair", "()I"⟩
abbrev cX5_soundness : ByteArray := prog_1_method_23_code
def yX5_soundness : MethodName := ⟨RX5, "soundness", "()F"⟩
abbrev cX5_ask : ByteArray := prog_1_method_24_code
def yX5_ask : MethodName := ⟨RX5, "ask", "(III)I"⟩
abbrev cX5_round : ByteArray := prog_1_method_25_code
def yX5_round : MethodName := ⟨RX5, "round", "(I)I"⟩
abbrev cX5_harm : ByteArray := prog_1_method_26_code
def yX5_harm : MethodName := ⟨RX5, "harm", "(II)I"⟩
abbrev cX5_repair : ByteArray := prog_1_method_27_code
def yX5_repair : MethodName := ⟨RX5, "repair", "(II)I"⟩
abbrev cX5_wave : ByteArray := prog_1_method_28_code
def yX5_wave : MethodName := ⟨RX5, "wave", "()I"⟩
abbrev cX5_spread : ByteArray := prog_1_method_29_code
def yX5_spread : MethodName := ⟨RX5, "spread", "()I"⟩
abbrev cX5_join : ByteArray := prog_1_method_30_code
def yX5_join : MethodName := ⟨RX5, "join", "(I)I"⟩
abbrev cX5_meet : ByteArray := prog_1_method_31_code
def yX5_meet : MethodName := ⟨RX5, "meet", "(II)I"⟩
abbrev cX5_leave : ByteArray := prog_1_method_32_code
def yX5_leave : MethodName := ⟨RX5, "leave", "(I)I"⟩
abbrev cX5_setPledge : ByteArray := prog_1_method_33_code
def yX5_setPledge : MethodName := ⟨RX5, "setPledge", "(II)I"⟩
abbrev cX5_undo : ByteArray := prog_1_method_34_code
def yX5_undo : MethodName := ⟨RX5, "undo", "()I"⟩
abbrev cX5_save : ByteArray := prog_1_method_35_code
def yX5_save : MethodName := ⟨RX5, "save", "(I)V"⟩
abbrev cX5_restore : ByteArray := prog_1_method_36_code
def yX5_restore : MethodName := ⟨RX5, "restore", "(I)I"⟩
abbrev cX5_writePictures : ByteArray := prog_1_method_37_code
def yX5_writePictures : MethodName := ⟨RX5, "writePictures", "()I"⟩
abbrev cX5_writtenByte : ByteArray := prog_1_method_38_code
def yX5_writtenByte : MethodName := ⟨RX5, "writtenByte", "(I)I"⟩
abbrev cX5_bytesIn : ByteArray := prog_1_method_39_code
def yX5_bytesIn : MethodName := ⟨RX5, "bytesIn", "(I)I"⟩
abbrev cX5_needFamily : ByteArray := prog_1_method_40_code
def yX5_needFamily : MethodName := ⟨RX5, "needFamily", "(I)V"⟩
abbrev cX5_needPicture : ByteArray := prog_1_method_41_code
def yX5_needPicture : MethodName := ⟨RX5, "needPicture", "(I)V"⟩
abbrev cX5_needBoth : ByteArray := prog_1_method_42_code
def yX5_needBoth : MethodName := ⟨RX5, "needBoth", "(II)V"⟩
abbrev cX5_needSlot : ByteArray := prog_1_method_43_code
def yX5_needSlot : MethodName := ⟨RX5, "needSlot", "(I)V"⟩
abbrev cX5_needRoundNumber : ByteArray := prog_1_method_44_code
def yX5_needRoundNumber : MethodName := ⟨RX5, "needRoundNumber", "(I)V"⟩
def RX6 : String := "VillagePhotosModel"
def TX6 : u_T := fun k => match k with
  | 0 => ("VillagePhotosModel", "a", "[I", true)
  | 1 => ("VillagePhotosModel", "aside", "[I", true)
  | 2 => ("VillagePhotosModel", "tried", "[I", true)
  | 3 => ("VillagePhotosModel", "kept", "[I", true)
  | 4 => ("VillagePhotosModel", "saved", "[I", true)
  | 5 => ("VillagePhotosModel", "isSaved", "[Z", true)
  | 6 => ("VillagePhotosModel", "keptMany", "I", false)
  | 7 => ("VillagePhotosModel", "thrown", "I", false)
  | 8 => ("VillagePhotosModel", "buffer", "[I", true)
  | 9 => ("VillagePhotosModel", "buffered", "I", false)
  | 10 => ("VillagePhotosModel", "at", "I", false)
  | 11 => ("VillagePhotosModel", "behind", "I", false)
  | 12 => ("VillagePhotosModel", "kind", "I", false)
  | 13 => ("VillagePhotosModel", "number", "I", false)
  | 14 => ("VillagePhotosModel", "wrong", "I", false)
  | 15 => ("VillagePhotosModel", "wrongAt", "I", false)
  | 16 => ("VillagePhotosModel", "errorAt", "I", false)
  | 17 => ("VillagePhotosModel", "x", "J", false)
  | 18 => ("VillagePhotosModel", "unused", "I", false)
  | 19 => ("VillagePhotosModel", "got", "[I", true)
  | 20 => ("VillagePhotosModel", "wavesMany", "I", false)
  | 21 => ("VillagePhotosModel", "lostMany", "I", false)
  | 22 => ("VillagePhotosModel", "written", "[I", true)
  | _ => ("VillagePhotosModel", "writtenMany", "I", false)
def tyX6 : Nat → FieldType := fun k => match k with
  | 0 => .array .int
  | 1 => .array .int
  | 2 => .array .int
  | 3 => .array .int
  | 4 => .array .int
  | 5 => .array .boolean
  | 6 => .int
  | 7 => .int
  | 8 => .array .int
  | 9 => .int
  | 10 => .int
  | 11 => .int
  | 12 => .int
  | 13 => .int
  | 14 => .int
  | 15 => .int
  | 16 => .int
  | 17 => .long
  | 18 => .int
  | 19 => .array .int
  | 20 => .int
  | 21 => .int
  | 22 => .array .int
  | _ => .int
abbrev wsX60 : List Cond := u_ws RX6 TX6 24
theorem nmX6 : ∀ a, a < 24 → ∀ b, b < 24 → a ≠ b → (TX6 a).2.1 ≠ (TX6 b).2.1 := by decide +kernel
theorem tyX6_ok : ∀ k, k < 24 → parseFieldDescriptor (TX6 k).2.2.1 = some (tyX6 k) := by decide +kernel
abbrev cX6_init : ByteArray := prog_8_method_1_code
def yX6_init : MethodName := ⟨RX6, "<init>", "()V"⟩
abbrev cX6_begins : ByteArray := prog_8_method_2_code
def yX6_begins : MethodName := ⟨RX6, "begins", "()V"⟩
abbrev cX6_thrown : ByteArray := prog_8_method_3_code
def yX6_thrown : MethodName := ⟨RX6, "thrown", "()I"⟩
abbrev cX6_isIn : ByteArray := prog_8_method_4_code
def yX6_isIn : MethodName := ⟨RX6, "isIn", "(III)Z"⟩
abbrev cX6_copies : ByteArray := prog_8_method_5_code
def yX6_copies : MethodName := ⟨RX6, "copies", "([II[II)V"⟩
abbrev cX6_keeps : ByteArray := prog_8_method_6_code
def yX6_keeps : MethodName := ⟨RX6, "keeps", "([I)V"⟩
abbrev cX6_undo : ByteArray := prog_8_method_7_code
def yX6_undo : MethodName := ⟨RX6, "undo", "()I"⟩
abbrev cX6_save : ByteArray := prog_8_method_8_code
def yX6_save : MethodName := ⟨RX6, "save", "(I)V"⟩
abbrev cX6_restore : ByteArray := prog_8_method_9_code
def yX6_restore : MethodName := ⟨RX6, "restore", "(I)I"⟩
abbrev cX6_byteOf : ByteArray := prog_8_method_10_code
def yX6_byteOf : MethodName := ⟨RX6, "byteOf", "(IIIIII)I"⟩
abbrev cX6_append : ByteArray := prog_8_method_11_code
def yX6_append : MethodName := ⟨RX6, "append", "(IIIII)I"⟩
abbrev cX6_see : ByteArray := prog_8_method_12_code
def yX6_see : MethodName := ⟨RX6, "see", "(I)I"⟩
abbrev cX6_isLetter : ByteArray := prog_8_method_13_code
def yX6_isLetter : MethodName := ⟨RX6, "isLetter", "(I)Z"⟩
abbrev cX6_isDigit : ByteArray := prog_8_method_14_code
def yX6_isDigit : MethodName := ⟨RX6, "isDigit", "(I)Z"⟩
abbrev cX6_next : ByteArray := prog_8_method_15_code
def yX6_next : MethodName := ⟨RX6, "next", "()V"⟩
abbrev cX6_isWord : ByteArray := prog_8_method_16_code
def yX6_isWord : MethodName := ⟨RX6, "isWord", "(Ljava/lang/String;)Z"⟩
abbrev cX6_fails : ByteArray := prog_8_method_17_code
def yX6_fails : MethodName := ⟨RX6, "fails", "(I)V"⟩
abbrev cX6_must : ByteArray := prog_8_method_18_code
def yX6_must : MethodName := ⟨RX6, "must", "(Z)V"⟩
abbrev cX6_mustEnd : ByteArray := prog_8_method_19_code
def yX6_mustEnd : MethodName := ⟨RX6, "mustEnd", "()V"⟩
abbrev cX6_stands : ByteArray := prog_8_method_20_code
def yX6_stands : MethodName := ⟨RX6, "stands", "(II)I"⟩
abbrev cX6_takes : ByteArray := prog_8_method_21_code
def yX6_takes : MethodName := ⟨RX6, "takes", "(II)I"⟩
abbrev cX6_mustName : ByteArray := prog_8_method_22_code
def yX6_mustName : MethodName := ⟨RX6, "mustName", "()V"⟩
abbrev cX6_named : ByteArray := prog_8_method_23_code
def yX6_named : MethodName := ⟨RX6, "named", "(III)I"⟩
abbrev cX6_putsName : ByteArray := prog_8_method_24_code
def yX6_putsName : MethodName := ⟨RX6, "putsName", "(I)V"⟩
abbrev cX6_familyHere : ByteArray := prog_8_method_25_code
def yX6_familyHere : MethodName := ⟨RX6, "familyHere", "()I"⟩
abbrev cX6_readsFamily : ByteArray := prog_8_method_26_code
def yX6_readsFamily : MethodName := ⟨RX6, "readsFamily", "()V"⟩
abbrev cX6_readsNear : ByteArray := prog_8_method_27_code
def yX6_readsNear : MethodName := ⟨RX6, "readsNear", "()V"⟩
abbrev cX6_readsPicture : ByteArray := prog_8_method_28_code
def yX6_readsPicture : MethodName := ⟨RX6, "readsPicture", "()V"⟩
abbrev cX6_readsCopy : ByteArray := prog_8_method_29_code
def yX6_readsCopy : MethodName := ⟨RX6, "readsCopy", "(I)V"⟩
abbrev cX6_load : ByteArray := prog_8_method_30_code
def yX6_load : MethodName := ⟨RX6, "load", "()I"⟩
abbrev cX6_errorPosition : ByteArray := prog_8_method_31_code
def yX6_errorPosition : MethodName := ⟨RX6, "errorPosition", "()I"⟩
abbrev cX6_families : ByteArray := prog_8_method_32_code
def yX6_families : MethodName := ⟨RX6, "families", "()I"⟩
abbrev cX6_pictures : ByteArray := prog_8_method_33_code
def yX6_pictures : MethodName := ⟨RX6, "pictures", "()I"⟩
abbrev cX6_ofFamily : ByteArray := prog_8_method_34_code
def yX6_ofFamily : MethodName := ⟨RX6, "ofFamily", "(II)I"⟩
abbrev cX6_setsOf : ByteArray := prog_8_method_35_code
def yX6_setsOf : MethodName := ⟨RX6, "setsOf", "(III)V"⟩
abbrev cX6_copyOf : ByteArray := prog_8_method_36_code
def yX6_copyOf : MethodName := ⟨RX6, "copyOf", "(II)I"⟩
abbrev cX6_setsCopy : ByteArray := prog_8_method_37_code
def yX6_setsCopy : MethodName := ⟨RX6, "setsCopy", "(III)V"⟩
abbrev cX6_pledgeOf : ByteArray := prog_8_method_38_code
def yX6_pledgeOf : MethodName := ⟨RX6, "pledgeOf", "(I)I"⟩
abbrev cX6_isFamily : ByteArray := prog_8_method_39_code
def yX6_isFamily : MethodName := ⟨RX6, "isFamily", "(I)Z"⟩
abbrev cX6_isPicture : ByteArray := prog_8_method_40_code
def yX6_isPicture : MethodName := ⟨RX6, "isPicture", "(I)Z"⟩
abbrev cX6_areNear : ByteArray := prog_8_method_41_code
def yX6_areNear : MethodName := ⟨RX6, "areNear", "(II)Z"⟩
abbrev cX6_joinsNear : ByteArray := prog_8_method_42_code
def yX6_joinsNear : MethodName := ⟨RX6, "joinsNear", "(II)V"⟩
abbrev cX6_bits : ByteArray := prog_8_method_43_code
def yX6_bits : MethodName := ⟨RX6, "bits", "(I)I"⟩
abbrev cX6_isHeld : ByteArray := prog_8_method_44_code
def yX6_isHeld : MethodName := ⟨RX6, "isHeld", "(I)Z"⟩
abbrev cX6_isBroken : ByteArray := prog_8_method_45_code
def yX6_isBroken : MethodName := ⟨RX6, "isBroken", "(I)Z"⟩
abbrev cX6_isSound : ByteArray := prog_8_method_46_code
def yX6_isSound : MethodName := ⟨RX6, "isSound", "(I)Z"⟩
abbrev cX6_isSort : ByteArray := prog_8_method_47_code
def yX6_isSort : MethodName := ⟨RX6, "isSort", "(II)Z"⟩
abbrev cX6_holders : ByteArray := prog_8_method_48_code
def yX6_holders : MethodName := ⟨RX6, "holders", "(II)I"⟩
abbrev cX6_copiesOf : ByteArray := prog_8_method_49_code
def yX6_copiesOf : MethodName := ⟨RX6, "copiesOf", "(II)I"⟩
abbrev cX6_leftOf : ByteArray := prog_8_method_50_code
def yX6_leftOf : MethodName := ⟨RX6, "leftOf", "(I)I"⟩
abbrev cX6_isInDanger : ByteArray := prog_8_method_51_code
def yX6_isInDanger : MethodName := ⟨RX6, "isInDanger", "(I)Z"⟩
abbrev cX6_isTruly : ByteArray := prog_8_method_52_code
def yX6_isTruly : MethodName := ⟨RX6, "isTruly", "(I)Z"⟩
abbrev cX6_trustOf : ByteArray := prog_8_method_53_code
def yX6_trustOf : MethodName := ⟨RX6, "trustOf", "(I)I"⟩
abbrev cX6_allOf : ByteArray := prog_8_method_54_code
def yX6_allOf : MethodName := ⟨RX6, "allOf", "(I)I"⟩
abbrev cX6_dangers : ByteArray := prog_8_method_55_code
def yX6_dangers : MethodName := ⟨RX6, "dangers", "(Z)I"⟩
abbrev cX6_pairs : ByteArray := prog_8_method_56_code
def yX6_pairs : MethodName := ⟨RX6, "pairs", "()I"⟩
abbrev cX6_count : ByteArray := prog_8_method_57_code
def yX6_count : MethodName := ⟨RX6, "count", "(I)I"⟩
abbrev cX6_family : ByteArray := prog_8_method_58_code
def yX6_family : MethodName := ⟨RX6, "family", "(II)I"⟩
abbrev cX6_picture : ByteArray := prog_8_method_59_code
def yX6_picture : MethodName := ⟨RX6, "picture", "(II)I"⟩
abbrev cX6_areBoth : ByteArray := prog_8_method_60_code
def yX6_areBoth : MethodName := ⟨RX6, "areBoth", "(II)Z"⟩
abbrev cX6_copy : ByteArray := prog_8_method_61_code
def yX6_copy : MethodName := ⟨RX6, "copy", "(II)I"⟩
abbrev cX6_why : ByteArray := prog_8_method_62_code
def yX6_why : MethodName := ⟨RX6, "why", "(II)I"⟩
abbrev cX6_asks : ByteArray := prog_8_method_63_code
def yX6_asks : MethodName := ⟨RX6, "asks", "(III)Z"⟩
abbrev cX6_rounds : ByteArray := prog_8_method_64_code
def yX6_rounds : MethodName := ⟨RX6, "rounds", "()I"⟩
abbrev cX6_chance : ByteArray := prog_8_method_65_code
def yX6_chance : MethodName := ⟨RX6, "chance", "(III)D"⟩
abbrev cX6_bestTile : ByteArray := prog_8_method_66_code
def yX6_bestTile : MethodName := ⟨RX6, "bestTile", "(I)I"⟩
abbrev cX6_roundsToFind : ByteArray := prog_8_method_67_code
def yX6_roundsToFind : MethodName := ⟨RX6, "roundsToFind", "(I)I"⟩
abbrev cX6_leastTrusted : ByteArray := prog_8_method_68_code
def yX6_leastTrusted : MethodName := ⟨RX6, "leastTrusted", "()I"⟩
abbrev cX6_sourcesOf : ByteArray := prog_8_method_69_code
def yX6_sourcesOf : MethodName := ⟨RX6, "sourcesOf", "(II)I"⟩
abbrev cX6_gets : ByteArray := prog_8_method_70_code
def yX6_gets : MethodName := ⟨RX6, "gets", "(II)I"⟩
abbrev cX6_canRepair : ByteArray := prog_8_method_71_code
def yX6_canRepair : MethodName := ⟨RX6, "canRepair", "(II)Z"⟩
abbrev cX6_waves1 : ByteArray := prog_8_method_72_code
def yX6_waves1 : MethodName := ⟨RX6, "waves1", "()I"⟩
abbrev cX6_sources : ByteArray := prog_8_method_73_code
def yX6_sources : MethodName := ⟨RX6, "sources", "(II)I"⟩
abbrev cX6_wouldGet : ByteArray := prog_8_method_74_code
def yX6_wouldGet : MethodName := ⟨RX6, "wouldGet", "(II)I"⟩
abbrev cX6_triesWaves : ByteArray := prog_8_method_75_code
def yX6_triesWaves : MethodName := ⟨RX6, "triesWaves", "()V"⟩
abbrev cX6_waves : ByteArray := prog_8_method_76_code
def yX6_waves : MethodName := ⟨RX6, "waves", "()I"⟩
abbrev cX6_lost : ByteArray := prog_8_method_77_code
def yX6_lost : MethodName := ⟨RX6, "lost", "()I"⟩
abbrev cX6_dependsOn : ByteArray := prog_8_method_78_code
def yX6_dependsOn : MethodName := ⟨RX6, "dependsOn", "(I)I"⟩
abbrev cX6_depends : ByteArray := prog_8_method_79_code
def yX6_depends : MethodName := ⟨RX6, "depends", "(I)I"⟩
abbrev cX6_mostNeeded : ByteArray := prog_8_method_80_code
def yX6_mostNeeded : MethodName := ⟨RX6, "mostNeeded", "()I"⟩
abbrev cX6_reach : ByteArray := prog_8_method_81_code
def yX6_reach : MethodName := ⟨RX6, "reach", "(I)I"⟩
abbrev cX6_isAhead : ByteArray := prog_8_method_82_code
def yX6_isAhead : MethodName := ⟨RX6, "isAhead", "(II)Z"⟩
abbrev cX6_nextFor : ByteArray := prog_8_method_83_code
def yX6_nextFor : MethodName := ⟨RX6, "nextFor", "(I)I"⟩
abbrev cX6_spreads : ByteArray := prog_8_method_84_code
def yX6_spreads : MethodName := ⟨RX6, "spreads", "()I"⟩
abbrev cX6_wouldSpread : ByteArray := prog_8_method_85_code
def yX6_wouldSpread : MethodName := ⟨RX6, "wouldSpread", "()I"⟩
abbrev cX6_dangersWith : ByteArray := prog_8_method_86_code
def yX6_dangersWith : MethodName := ⟨RX6, "dangersWith", "(II)I"⟩
abbrev cX6_bestPair : ByteArray := prog_8_method_87_code
def yX6_bestPair : MethodName := ⟨RX6, "bestPair", "()I"⟩
abbrev cX6_soundness : ByteArray := prog_8_method_88_code
def yX6_soundness : MethodName := ⟨RX6, "soundness", "()F"⟩
abbrev cX6_ask : ByteArray := prog_8_method_89_code
def yX6_ask : MethodName := ⟨RX6, "ask", "(III)I"⟩
abbrev cX6_round : ByteArray := prog_8_method_90_code
def yX6_round : MethodName := ⟨RX6, "round", "(I)I"⟩
abbrev cX6_harm : ByteArray := prog_8_method_91_code
def yX6_harm : MethodName := ⟨RX6, "harm", "(II)I"⟩
abbrev cX6_repair : ByteArray := prog_8_method_92_code
def yX6_repair : MethodName := ⟨RX6, "repair", "(II)I"⟩
abbrev cX6_wave : ByteArray := prog_8_method_93_code
def yX6_wave : MethodName := ⟨RX6, "wave", "()I"⟩
abbrev cX6_spread : ByteArray := prog_8_method_94_code
def yX6_spread : MethodName := ⟨RX6, "spread", "()I"⟩
abbrev cX6_join : ByteArray := prog_8_method_95_code
def yX6_join : MethodName := ⟨RX6, "join", "(I)I"⟩
abbrev cX6_meet : ByteArray := prog_8_method_96_code
def yX6_meet : MethodName := ⟨RX6, "meet", "(II)I"⟩
abbrev cX6_without : ByteArray := prog_8_method_97_code
def yX6_without : MethodName := ⟨RX6, "without", "(II)I"⟩
abbrev cX6_leave : ByteArray := prog_8_method_98_code
def yX6_leave : MethodName := ⟨RX6, "leave", "(I)I"⟩
abbrev cX6_setPledge : ByteArray := prog_8_method_99_code
def yX6_setPledge : MethodName := ⟨RX6, "setPledge", "(II)I"⟩
abbrev cX6_says : ByteArray := prog_8_method_100_code
def yX6_says : MethodName := ⟨RX6, "says", "(I)V"⟩
abbrev cX6_saysName : ByteArray := prog_8_method_101_code
def yX6_saysName : MethodName := ⟨RX6, "saysName", "(I)V"⟩
abbrev cX6_writePictures : ByteArray := prog_8_method_102_code
def yX6_writePictures : MethodName := ⟨RX6, "writePictures", "()I"⟩
abbrev cX6_writtenByte : ByteArray := prog_8_method_103_code
def yX6_writtenByte : MethodName := ⟨RX6, "writtenByte", "(I)I"⟩
def RJx145de : String := "java/io/Serializable"
def TJx145de : u_T := fun k => match k with
  | _ => ("", "", "", false)
def tyJx145de : Nat → FieldType := fun k => match k with
  | _ => .int
abbrev wsJx145de0 : List Cond := u_ws RJx145de TJx145de 0
theorem nmJx145de : ∀ a, a < 0 → ∀ b, b < 0 → a ≠ b → (TJx145de a).2.1 ≠ (TJx145de b).2.1 := by decide +kernel
theorem tyJx145de_ok : ∀ k, k < 0 → parseFieldDescriptor (TJx145de k).2.2.1 = some (tyJx145de k) := by decide +kernel
def RJx9f9b0 : String := "java/lang/CharSequence"
def TJx9f9b0 : u_T := fun k => match k with
  | _ => ("", "", "", false)
def tyJx9f9b0 : Nat → FieldType := fun k => match k with
  | _ => .int
abbrev wsJx9f9b00 : List Cond := u_ws RJx9f9b0 TJx9f9b0 0
theorem nmJx9f9b0 : ∀ a, a < 0 → ∀ b, b < 0 → a ≠ b → (TJx9f9b0 a).2.1 ≠ (TJx9f9b0 b).2.1 := by decide +kernel
theorem tyJx9f9b0_ok : ∀ k, k < 0 → parseFieldDescriptor (TJx9f9b0 k).2.2.1 = some (tyJx9f9b0 k) := by decide +kernel
def RJxb160c : String := "java/lang/Comparable"
def TJxb160c : u_T := fun k => match k with
  | _ => ("", "", "", false)
def tyJxb160c : Nat → FieldType := fun k => match k with
  | _ => .int
abbrev wsJxb160c0 : List Cond := u_ws RJxb160c TJxb160c 0
theorem nmJxb160c : ∀ a, a < 0 → ∀ b, b < 0 → a ≠ b → (TJxb160c a).2.1 ≠ (TJxb160c b).2.1 := by decide +kernel
theorem tyJxb160c_ok : ∀ k, k < 0 → parseFieldDescriptor (TJxb160c k).2.2.1 = some (tyJxb160c k) := by decide +kernel
def RJ6 : String := "java/lang/Integer"
def TJ6 : u_T := fun k => match k with
  | _ => ("", "", "", false)
def tyJ6 : Nat → FieldType := fun k => match k with
  | _ => .int
abbrev wsJ60 : List Cond := u_ws RJ6 TJ6 0
theorem nmJ6 : ∀ a, a < 0 → ∀ b, b < 0 → a ≠ b → (TJ6 a).2.1 ≠ (TJ6 b).2.1 := by decide +kernel
theorem tyJ6_ok : ∀ k, k < 0 → parseFieldDescriptor (TJ6 k).2.2.1 = some (tyJ6 k) := by decide +kernel
abbrev cJ6_bitCount_0f7a4 : ByteArray := prog_13_method_49_code
def yJ6_bitCount_0f7a4 : MethodName := ⟨RJ6, "bitCount", "(I)I"⟩
def RJ9 : String := "java/lang/Math"
def TJ9 : u_T := fun k => match k with
  | _ => ("", "", "", false)
def tyJ9 : Nat → FieldType := fun k => match k with
  | _ => .int
abbrev wsJ90 : List Cond := u_ws RJ9 TJ9 0
theorem nmJ9 : ∀ a, a < 0 → ∀ b, b < 0 → a ≠ b → (TJ9 a).2.1 ≠ (TJ9 b).2.1 := by decide +kernel
theorem tyJ9_ok : ∀ k, k < 0 → parseFieldDescriptor (TJ9 k).2.2.1 = some (tyJ9 k) := by decide +kernel
abbrev cJ9_min_7cf53 : ByteArray := prog_14_method_69_code
def yJ9_min_7cf53 : MethodName := ⟨RJ9, "min", "(II)I"⟩
def RJ0 : String := "java/lang/String"
def TJ0 : u_T := fun k => match k with
  | _ => ("", "", "", false)
def tyJ0 : Nat → FieldType := fun k => match k with
  | _ => .int
abbrev wsJ00 : List Cond := u_ws RJ0 TJ0 0
theorem nmJ0 : ∀ a, a < 0 → ∀ b, b < 0 → a ≠ b → (TJ0 a).2.1 ≠ (TJ0 b).2.1 := by decide +kernel
theorem tyJ0_ok : ∀ k, k < 0 → parseFieldDescriptor (TJ0 k).2.2.1 = some (tyJ0 k) := by decide +kernel
abbrev cJ0_length_8abf5 : ByteArray := prog_16_method_54_code
def yJ0_length_8abf5 : MethodName := ⟨RJ0, "length", "()I"⟩
abbrev cJ0_charAt_5068e : ByteArray := prog_16_method_56_code
def yJ0_charAt_5068e : MethodName := ⟨RJ0, "charAt", "(I)C"⟩
abbrev cJ0_coder_7d493 : ByteArray := prog_16_method_152_code
def yJ0_coder_7d493 : MethodName := ⟨RJ0, "coder", "()B"⟩
abbrev cJ0_isLatin1_aae02 : ByteArray := prog_16_method_154_code
def yJ0_isLatin1_aae02 : MethodName := ⟨RJ0, "isLatin1", "()Z"⟩
abbrev cJ0_checkIndex_df160 : ByteArray := prog_16_method_155_code
def yJ0_checkIndex_df160 : MethodName := ⟨RJ0, "checkIndex", "(II)V"⟩
def RJ1 : String := "java/lang/StringLatin1"
def TJ1 : u_T := fun k => match k with
  | _ => ("", "", "", false)
def tyJ1 : Nat → FieldType := fun k => match k with
  | _ => .int
abbrev wsJ10 : List Cond := u_ws RJ1 TJ1 0
theorem nmJ1 : ∀ a, a < 0 → ∀ b, b < 0 → a ≠ b → (TJ1 a).2.1 ≠ (TJ1 b).2.1 := by decide +kernel
theorem tyJ1_ok : ∀ k, k < 0 → parseFieldDescriptor (TJ1 k).2.2.1 = some (tyJ1 k) := by decide +kernel
abbrev cJ1_charAt_3b067 : ByteArray := prog_17_method_2_code
def yJ1_charAt_3b067 : MethodName := ⟨RJ1, "charAt", "([BI)C"⟩
def RJ2 : String := "java/lang/StringUTF16"
def TJ2 : u_T := fun k => match k with
  | _ => ("", "", "", false)
def tyJ2 : Nat → FieldType := fun k => match k with
  | _ => .int
abbrev wsJ20 : List Cond := u_ws RJ2 TJ2 0
theorem nmJ2 : ∀ a, a < 0 → ∀ b, b < 0 → a ≠ b → (TJ2 a).2.1 ≠ (TJ2 b).2.1 := by decide +kernel
theorem tyJ2_ok : ∀ k, k < 0 → parseFieldDescriptor (TJ2 k).2.2.1 = some (tyJ2 k) := by decide +kernel
abbrev cJ2_getChar_3b067 : ByteArray := prog_18_method_5_code
def yJ2_getChar_3b067 : MethodName := ⟨RJ2, "getChar", "([BI)C"⟩
abbrev cJ2_length_9d52b : ByteArray := prog_18_method_6_code
def yJ2_length_9d52b : MethodName := ⟨RJ2, "length", "([B)I"⟩
abbrev cJ2_charAt_3b067 : ByteArray := prog_18_method_83_code
def yJ2_charAt_3b067 : MethodName := ⟨RJ2, "charAt", "([BI)C"⟩
abbrev cJ2_checkIndex_2214a : ByteArray := prog_18_method_91_code
def yJ2_checkIndex_2214a : MethodName := ⟨RJ2, "checkIndex", "(I[B)V"⟩
def RJ10 : String := "java/lang/System"
def TJ10 : u_T := fun k => match k with
  | _ => ("", "", "", false)
def tyJ10 : Nat → FieldType := fun k => match k with
  | _ => .int
abbrev wsJ100 : List Cond := u_ws RJ10 TJ10 0
theorem nmJ10 : ∀ a, a < 0 → ∀ b, b < 0 → a ≠ b → (TJ10 a).2.1 ≠ (TJ10 b).2.1 := by decide +kernel
theorem tyJ10_ok : ∀ k, k < 0 → parseFieldDescriptor (TJ10 k).2.2.1 = some (tyJ10 k) := by decide +kernel
def RJxfd54e : String := "java/lang/constant/Constable"
def TJxfd54e : u_T := fun k => match k with
  | _ => ("", "", "", false)
def tyJxfd54e : Nat → FieldType := fun k => match k with
  | _ => .int
abbrev wsJxfd54e0 : List Cond := u_ws RJxfd54e TJxfd54e 0
theorem nmJxfd54e : ∀ a, a < 0 → ∀ b, b < 0 → a ≠ b → (TJxfd54e a).2.1 ≠ (TJxfd54e b).2.1 := by decide +kernel
theorem tyJxfd54e_ok : ∀ k, k < 0 → parseFieldDescriptor (TJxfd54e k).2.2.1 = some (tyJxfd54e k) := by decide +kernel
def RJx3cf43 : String := "java/lang/constant/ConstantDesc"
def TJx3cf43 : u_T := fun k => match k with
  | _ => ("", "", "", false)
def tyJx3cf43 : Nat → FieldType := fun k => match k with
  | _ => .int
abbrev wsJx3cf430 : List Cond := u_ws RJx3cf43 TJx3cf43 0
theorem nmJx3cf43 : ∀ a, a < 0 → ∀ b, b < 0 → a ≠ b → (TJx3cf43 a).2.1 ≠ (TJx3cf43 b).2.1 := by decide +kernel
theorem tyJx3cf43_ok : ∀ k, k < 0 → parseFieldDescriptor (TJx3cf43 k).2.2.1 = some (tyJx3cf43 k) := by decide +kernel
def RJ7 : String := "java/util/Arrays"
def TJ7 : u_T := fun k => match k with
  | _ => ("", "", "", false)
def tyJ7 : Nat → FieldType := fun k => match k with
  | _ => .int
abbrev wsJ70 : List Cond := u_ws RJ7 TJ7 0
theorem nmJ7 : ∀ a, a < 0 → ∀ b, b < 0 → a ≠ b → (TJ7 a).2.1 ≠ (TJ7 b).2.1 := by decide +kernel
theorem tyJ7_ok : ∀ k, k < 0 → parseFieldDescriptor (TJ7 k).2.2.1 = some (tyJ7 k) := by decide +kernel
abbrev cJ7_fill_d0a16 : ByteArray := prog_21_method_101_code
def yJ7_fill_d0a16 : MethodName := ⟨RJ7, "fill", "([JJ)V"⟩
abbrev cJ7_fill_53178 : ByteArray := prog_21_method_103_code
def yJ7_fill_53178 : MethodName := ⟨RJ7, "fill", "([II)V"⟩
def RJ3 : String := "jdk/internal/util/Preconditions"
def TJ3 : u_T := fun k => match k with
  | _ => ("", "", "", false)
def tyJ3 : Nat → FieldType := fun k => match k with
  | _ => .int
abbrev wsJ30 : List Cond := u_ws RJ3 TJ3 0
theorem nmJ3 : ∀ a, a < 0 → ∀ b, b < 0 → a ≠ b → (TJ3 a).2.1 ≠ (TJ3 b).2.1 := by decide +kernel
theorem tyJ3_ok : ∀ k, k < 0 → parseFieldDescriptor (TJ3 k).2.2.1 = some (tyJ3 k) := by decide +kernel
abbrev cJ3_checkIndex_8e157 : ByteArray := prog_22_method_11_code
def yJ3_checkIndex_8e157 : MethodName := ⟨RJ3, "checkIndex", "(IILjava/util/function/BiFunction;)I"⟩
def RL : String := "VillagePhotosLaw"
abbrev cL_append : ByteArray := method_3_code
def yL_append : MethodName := ⟨RL, "append", "(LVillagePhotos;IIIII[J)I"⟩
abbrev cL_count : ByteArray := method_4_code
def yL_count : MethodName := ⟨RL, "count", "(LVillagePhotos;I[J)I"⟩
abbrev cL_family : ByteArray := method_5_code
def yL_family : MethodName := ⟨RL, "family", "(LVillagePhotos;II[J)I"⟩
abbrev cL_picture : ByteArray := method_6_code
def yL_picture : MethodName := ⟨RL, "picture", "(LVillagePhotos;II[J)I"⟩
abbrev cL_copy : ByteArray := method_7_code
def yL_copy : MethodName := ⟨RL, "copy", "(LVillagePhotos;II[J)I"⟩
abbrev cL_why : ByteArray := method_8_code
def yL_why : MethodName := ⟨RL, "why", "(LVillagePhotos;II[J)I"⟩
abbrev cL_chance : ByteArray := method_9_code
def yL_chance : MethodName := ⟨RL, "chance", "(LVillagePhotos;III[D)I"⟩
abbrev cL_bestTile : ByteArray := method_10_code
def yL_bestTile : MethodName := ⟨RL, "bestTile", "(LVillagePhotos;I[J)I"⟩
abbrev cL_roundsToFind : ByteArray := method_11_code
def yL_roundsToFind : MethodName := ⟨RL, "roundsToFind", "(LVillagePhotos;I[J)I"⟩
abbrev cL_sources : ByteArray := method_12_code
def yL_sources : MethodName := ⟨RL, "sources", "(LVillagePhotos;II[J)I"⟩
abbrev cL_wouldGet : ByteArray := method_13_code
def yL_wouldGet : MethodName := ⟨RL, "wouldGet", "(LVillagePhotos;II[J)I"⟩
abbrev cL_depends : ByteArray := method_14_code
def yL_depends : MethodName := ⟨RL, "depends", "(LVillagePhotos;I[J)I"⟩
abbrev cL_reach : ByteArray := method_15_code
def yL_reach : MethodName := ⟨RL, "reach", "(LVillagePhotos;I[J)I"⟩
abbrev cL_ask : ByteArray := method_16_code
def yL_ask : MethodName := ⟨RL, "ask", "(LVillagePhotos;III[J)I"⟩
abbrev cL_round : ByteArray := method_17_code
def yL_round : MethodName := ⟨RL, "round", "(LVillagePhotos;I[J)I"⟩
abbrev cL_harm : ByteArray := method_18_code
def yL_harm : MethodName := ⟨RL, "harm", "(LVillagePhotos;II[J)I"⟩
abbrev cL_repair : ByteArray := method_19_code
def yL_repair : MethodName := ⟨RL, "repair", "(LVillagePhotos;II[J)I"⟩
abbrev cL_join : ByteArray := method_20_code
def yL_join : MethodName := ⟨RL, "join", "(LVillagePhotos;I[J)I"⟩
abbrev cL_meet : ByteArray := method_21_code
def yL_meet : MethodName := ⟨RL, "meet", "(LVillagePhotos;II[J)I"⟩
abbrev cL_leave : ByteArray := method_22_code
def yL_leave : MethodName := ⟨RL, "leave", "(LVillagePhotos;I[J)I"⟩
abbrev cL_setPledge : ByteArray := method_23_code
def yL_setPledge : MethodName := ⟨RL, "setPledge", "(LVillagePhotos;II[J)I"⟩
abbrev cL_undo : ByteArray := method_24_code
def yL_undo : MethodName := ⟨RL, "undo", "(LVillagePhotos;[J)I"⟩
abbrev cL_save : ByteArray := method_25_code
def yL_save : MethodName := ⟨RL, "save", "(LVillagePhotos;I)I"⟩
abbrev cL_restore : ByteArray := method_26_code
def yL_restore : MethodName := ⟨RL, "restore", "(LVillagePhotos;I[J)I"⟩
abbrev cL_writtenByte : ByteArray := method_27_code
def yL_writtenByte : MethodName := ⟨RL, "writtenByte", "(LVillagePhotos;I[J)I"⟩
abbrev cL_law : ByteArray := code
def yL_law : MethodName := ⟨RL, "law", "([I)Z"⟩
def wsJ0_checkIndex_df160 : List Cond := .code yJ0_checkIndex_df160 cJ0_checkIndex_df160 2 none :: ([.fieldLink RJ0 1053 "jdk/internal/util/Preconditions" "SIOOBE_FORMATTER" "Ljava/util/function/BiFunction;", .methodLink RJ0 1059 yJ3_checkIndex_8e157, .static yJ3_checkIndex_8e157, .initialized RJ3, .code yJ3_checkIndex_8e157 cJ3_checkIndex_8e157 3 (some .int)])
theorem inX0 : ∀ w ∈ wsX00, w ∈ lw_tbl := by decide +kernel
theorem inX1 : ∀ w ∈ wsX10, w ∈ lw_tbl := by decide +kernel
theorem inX2 : ∀ w ∈ wsX20, w ∈ lw_tbl := by decide +kernel
theorem inX3 : ∀ w ∈ wsX30, w ∈ lw_tbl := by decide +kernel
theorem inX4 : ∀ w ∈ wsX40, w ∈ lw_tbl := by decide +kernel
theorem inX5 : ∀ w ∈ wsX50, w ∈ lw_tbl := by decide +kernel
theorem inX6 : ∀ w ∈ wsX60, w ∈ lw_tbl := by decide +kernel
theorem inJx145de : ∀ w ∈ wsJx145de0, w ∈ lw_tbl := by decide +kernel
theorem inJx9f9b0 : ∀ w ∈ wsJx9f9b00, w ∈ lw_tbl := by decide +kernel
theorem inJxb160c : ∀ w ∈ wsJxb160c0, w ∈ lw_tbl := by decide +kernel
theorem inJ6 : ∀ w ∈ wsJ60, w ∈ lw_tbl := by decide +kernel
theorem inJ9 : ∀ w ∈ wsJ90, w ∈ lw_tbl := by decide +kernel
theorem inJ0 : ∀ w ∈ wsJ00, w ∈ lw_tbl := by decide +kernel
theorem inJ1 : ∀ w ∈ wsJ10, w ∈ lw_tbl := by decide +kernel
theorem inJ2 : ∀ w ∈ wsJ20, w ∈ lw_tbl := by decide +kernel
theorem inJ10 : ∀ w ∈ wsJ100, w ∈ lw_tbl := by decide +kernel
theorem inJxfd54e : ∀ w ∈ wsJxfd54e0, w ∈ lw_tbl := by decide +kernel
theorem inJx3cf43 : ∀ w ∈ wsJx3cf430, w ∈ lw_tbl := by decide +kernel
theorem inJ7 : ∀ w ∈ wsJ70, w ∈ lw_tbl := by decide +kernel
theorem inJ3 : ∀ w ∈ wsJ30, w ∈ lw_tbl := by decide +kernel
abbrev vwCl : List vw_C := [(RX0, TX0, 16), (RX1, TX1, 3), (RX3, TX3, 2), (RX4, TX4, 8), (RX5, TX5, 6), (RX6, TX6, 24)]
end
section
theorem dX1_init_0 : decode cX1_init 0 = .ok (.aload_n 0, 1) := by decide +kernel
theorem dX1_init_1 : decode cX1_init 1 = .ok (.invokespecial 3, 3) := by decide +kernel
theorem dX1_init_4 : decode cX1_init 4 = .ok (.aload_n 0, 1) := by decide +kernel
theorem dX1_init_5 : decode cX1_init 5 = .ok (.bipush 8, 2) := by decide +kernel
theorem dX1_init_7 : decode cX1_init 7 = .ok (.anewarray 9, 3) := by decide +kernel
theorem dX1_init_10 : decode cX1_init 10 = .ok (.putfield 11, 3) := by decide +kernel
theorem dX1_init_13 : decode cX1_init 13 = .ok (.aload_n 0, 1) := by decide +kernel
theorem dX1_init_14 : decode cX1_init 14 = .ok (.iconst 0, 1) := by decide +kernel
theorem dX1_init_15 : decode cX1_init 15 = .ok (.putfield 17, 3) := by decide +kernel
theorem dX1_init_18 : decode cX1_init 18 = .ok (.aload_n 0, 1) := by decide +kernel
theorem dX1_init_19 : decode cX1_init 19 = .ok (.iconst 0, 1) := by decide +kernel
theorem dX1_init_20 : decode cX1_init 20 = .ok (.putfield 21, 3) := by decide +kernel
theorem dX1_init_23 : decode cX1_init 23 = .ok (.return_, 1) := by decide +kernel
theorem dX1_keep_0 : decode cX1_keep 0 = .ok (.aload_n 0, 1) := by decide +kernel
theorem dX1_keep_1 : decode cX1_keep 1 = .ok (.getfield 11, 3) := by decide +kernel
theorem dX1_keep_4 : decode cX1_keep 4 = .ok (.aload_n 0, 1) := by decide +kernel
theorem dX1_keep_5 : decode cX1_keep 5 = .ok (.getfield 17, 3) := by decide +kernel
theorem dX1_keep_8 : decode cX1_keep 8 = .ok (.aaload, 1) := by decide +kernel
theorem dX1_keep_9 : decode cX1_keep 9 = .ok (.astore_n 2, 1) := by decide +kernel
theorem dX1_keep_10 : decode cX1_keep 10 = .ok (.aload_n 2, 1) := by decide +kernel
theorem dX1_keep_11 : decode cX1_keep 11 = .ok (.ifnonnull 21, 3) := by decide +kernel
theorem dX1_keep_14 : decode cX1_keep 14 = .ok (.new 9, 3) := by decide +kernel
theorem dX1_keep_17 : decode cX1_keep 17 = .ok (.dup, 1) := by decide +kernel
theorem dX1_keep_18 : decode cX1_keep 18 = .ok (.invokespecial 24, 3) := by decide +kernel
theorem dX1_keep_21 : decode cX1_keep 21 = .ok (.astore_n 2, 1) := by decide +kernel
theorem dX1_keep_22 : decode cX1_keep 22 = .ok (.aload_n 0, 1) := by decide +kernel
theorem dX1_keep_23 : decode cX1_keep 23 = .ok (.getfield 11, 3) := by decide +kernel
theorem dX1_keep_26 : decode cX1_keep 26 = .ok (.aload_n 0, 1) := by decide +kernel
theorem dX1_keep_27 : decode cX1_keep 27 = .ok (.getfield 17, 3) := by decide +kernel
theorem dX1_keep_30 : decode cX1_keep 30 = .ok (.aload_n 2, 1) := by decide +kernel
theorem dX1_keep_31 : decode cX1_keep 31 = .ok (.aastore, 1) := by decide +kernel
theorem dX1_keep_32 : decode cX1_keep 32 = .ok (.aload_n 2, 1) := by decide +kernel
theorem dX1_keep_33 : decode cX1_keep 33 = .ok (.aload_n 1, 1) := by decide +kernel
theorem dX1_keep_34 : decode cX1_keep 34 = .ok (.invokevirtual 25, 3) := by decide +kernel
theorem dX1_keep_37 : decode cX1_keep 37 = .ok (.aload_n 0, 1) := by decide +kernel
theorem dX1_keep_38 : decode cX1_keep 38 = .ok (.aload_n 0, 1) := by decide +kernel
theorem dX1_keep_39 : decode cX1_keep 39 = .ok (.getfield 17, 3) := by decide +kernel
theorem dX1_keep_42 : decode cX1_keep 42 = .ok (.iconst 1, 1) := by decide +kernel
theorem dX1_keep_43 : decode cX1_keep 43 = .ok (.iadd, 1) := by decide +kernel
theorem dX1_keep_44 : decode cX1_keep 44 = .ok (.bipush 8, 2) := by decide +kernel
theorem dX1_keep_46 : decode cX1_keep 46 = .ok (.irem, 1) := by decide +kernel
theorem dX1_keep_47 : decode cX1_keep 47 = .ok (.putfield 17, 3) := by decide +kernel
theorem dX1_keep_50 : decode cX1_keep 50 = .ok (.aload_n 0, 1) := by decide +kernel
theorem dX1_keep_51 : decode cX1_keep 51 = .ok (.aload_n 0, 1) := by decide +kernel
theorem dX1_keep_52 : decode cX1_keep 52 = .ok (.getfield 21, 3) := by decide +kernel
theorem dX1_keep_55 : decode cX1_keep 55 = .ok (.iconst 1, 1) := by decide +kernel
theorem dX1_keep_56 : decode cX1_keep 56 = .ok (.iadd, 1) := by decide +kernel
theorem dX1_keep_57 : decode cX1_keep 57 = .ok (.bipush 8, 2) := by decide +kernel
theorem dX1_keep_59 : decode cX1_keep 59 = .ok (.invokestatic 29, 3) := by decide +kernel
theorem dX1_keep_62 : decode cX1_keep 62 = .ok (.putfield 21, 3) := by decide +kernel
theorem dX1_keep_65 : decode cX1_keep 65 = .ok (.return_, 1) := by decide +kernel
theorem dX1_giveBack_0 : decode cX1_giveBack 0 = .ok (.aload_n 0, 1) := by decide +kernel
theorem dX1_giveBack_1 : decode cX1_giveBack 1 = .ok (.getfield 17, 3) := by decide +kernel
theorem dX1_giveBack_4 : decode cX1_giveBack 4 = .ok (.bipush 8, 2) := by decide +kernel
theorem dX1_giveBack_6 : decode cX1_giveBack 6 = .ok (.iadd, 1) := by decide +kernel
theorem dX1_giveBack_7 : decode cX1_giveBack 7 = .ok (.iconst 1, 1) := by decide +kernel
theorem dX1_giveBack_8 : decode cX1_giveBack 8 = .ok (.isub, 1) := by decide +kernel
theorem dX1_giveBack_9 : decode cX1_giveBack 9 = .ok (.bipush 8, 2) := by decide +kernel
theorem dX1_giveBack_11 : decode cX1_giveBack 11 = .ok (.irem, 1) := by decide +kernel
theorem dX1_giveBack_12 : decode cX1_giveBack 12 = .ok (.istore_n 2, 1) := by decide +kernel
theorem dX1_giveBack_13 : decode cX1_giveBack 13 = .ok (.aload_n 0, 1) := by decide +kernel
theorem dX1_giveBack_14 : decode cX1_giveBack 14 = .ok (.getfield 11, 3) := by decide +kernel
theorem dX1_giveBack_17 : decode cX1_giveBack 17 = .ok (.iload_n 2, 1) := by decide +kernel
theorem dX1_giveBack_18 : decode cX1_giveBack 18 = .ok (.aaload, 1) := by decide +kernel
theorem dX1_giveBack_19 : decode cX1_giveBack 19 = .ok (.astore_n 3, 1) := by decide +kernel
theorem dX1_giveBack_20 : decode cX1_giveBack 20 = .ok (.aload_n 0, 1) := by decide +kernel
theorem dX1_giveBack_21 : decode cX1_giveBack 21 = .ok (.getfield 21, 3) := by decide +kernel
theorem dX1_giveBack_24 : decode cX1_giveBack 24 = .ok (.ifCond .eq 7, 3) := by decide +kernel
theorem dX1_giveBack_27 : decode cX1_giveBack 27 = .ok (.aload_n 3, 1) := by decide +kernel
theorem dX1_giveBack_28 : decode cX1_giveBack 28 = .ok (.ifnonnull 5, 3) := by decide +kernel
theorem dX1_giveBack_31 : decode cX1_giveBack 31 = .ok (.iconst 0, 1) := by decide +kernel
theorem dX1_giveBack_32 : decode cX1_giveBack 32 = .ok (.ireturn, 1) := by decide +kernel
theorem dX1_giveBack_33 : decode cX1_giveBack 33 = .ok (.aload_n 1, 1) := by decide +kernel
theorem dX1_giveBack_34 : decode cX1_giveBack 34 = .ok (.aload_n 3, 1) := by decide +kernel
theorem dX1_giveBack_35 : decode cX1_giveBack 35 = .ok (.invokevirtual 25, 3) := by decide +kernel
theorem dX1_giveBack_38 : decode cX1_giveBack 38 = .ok (.aload_n 0, 1) := by decide +kernel
theorem dX1_giveBack_39 : decode cX1_giveBack 39 = .ok (.iload_n 2, 1) := by decide +kernel
theorem dX1_giveBack_40 : decode cX1_giveBack 40 = .ok (.putfield 17, 3) := by decide +kernel
theorem dX1_giveBack_43 : decode cX1_giveBack 43 = .ok (.aload_n 0, 1) := by decide +kernel
theorem dX1_giveBack_44 : decode cX1_giveBack 44 = .ok (.dup, 1) := by decide +kernel
theorem dX1_giveBack_45 : decode cX1_giveBack 45 = .ok (.getfield 21, 3) := by decide +kernel
theorem dX1_giveBack_48 : decode cX1_giveBack 48 = .ok (.iconst 1, 1) := by decide +kernel
theorem dX1_giveBack_49 : decode cX1_giveBack 49 = .ok (.isub, 1) := by decide +kernel
theorem dX1_giveBack_50 : decode cX1_giveBack 50 = .ok (.putfield 21, 3) := by decide +kernel
theorem dX1_giveBack_53 : decode cX1_giveBack 53 = .ok (.iconst 1, 1) := by decide +kernel
theorem dX1_giveBack_54 : decode cX1_giveBack 54 = .ok (.ireturn, 1) := by decide +kernel
theorem dX2_withSign_0 : decode cX2_withSign 0 = .ok (.iload_n 2, 1) := by decide +kernel
theorem dX2_withSign_1 : decode cX2_withSign 1 = .ok (.bipush 45, 2) := by decide +kernel
theorem dX2_withSign_3 : decode cX2_withSign 3 = .ok (.if_icmp .ne 8, 3) := by decide +kernel
theorem dX2_withSign_6 : decode cX2_withSign 6 = .ok (.bipush 27, 2) := by decide +kernel
theorem dX2_withSign_8 : decode cX2_withSign 8 = .ok (.goto 9, 3) := by decide +kernel
theorem dX2_withSign_11 : decode cX2_withSign 11 = .ok (.iload_n 2, 1) := by decide +kernel
theorem dX2_withSign_12 : decode cX2_withSign 12 = .ok (.bipush 97, 2) := by decide +kernel
theorem dX2_withSign_14 : decode cX2_withSign 14 = .ok (.isub, 1) := by decide +kernel
theorem dX2_withSign_15 : decode cX2_withSign 15 = .ok (.iconst 1, 1) := by decide +kernel
theorem dX2_withSign_16 : decode cX2_withSign 16 = .ok (.iadd, 1) := by decide +kernel
theorem dX2_withSign_17 : decode cX2_withSign 17 = .ok (.istore_n 3, 1) := by decide +kernel
theorem dX2_withSign_18 : decode cX2_withSign 18 = .ok (.lload_n 0, 1) := by decide +kernel
theorem dX2_withSign_19 : decode cX2_withSign 19 = .ok (.iconst 5, 1) := by decide +kernel
theorem dX2_withSign_20 : decode cX2_withSign 20 = .ok (.lshl, 1) := by decide +kernel
theorem dX2_withSign_21 : decode cX2_withSign 21 = .ok (.iload_n 3, 1) := by decide +kernel
theorem dX2_withSign_22 : decode cX2_withSign 22 = .ok (.i2l, 1) := by decide +kernel
theorem dX2_withSign_23 : decode cX2_withSign 23 = .ok (.lor, 1) := by decide +kernel
theorem dX2_withSign_24 : decode cX2_withSign 24 = .ok (.lreturn, 1) := by decide +kernel
theorem dX2_signFromEnd_0 : decode cX2_signFromEnd 0 = .ok (.lload_n 0, 1) := by decide +kernel
theorem dX2_signFromEnd_1 : decode cX2_signFromEnd 1 = .ok (.iconst 5, 1) := by decide +kernel
theorem dX2_signFromEnd_2 : decode cX2_signFromEnd 2 = .ok (.iload_n 2, 1) := by decide +kernel
theorem dX2_signFromEnd_3 : decode cX2_signFromEnd 3 = .ok (.imul, 1) := by decide +kernel
theorem dX2_signFromEnd_4 : decode cX2_signFromEnd 4 = .ok (.lushr, 1) := by decide +kernel
theorem dX2_signFromEnd_5 : decode cX2_signFromEnd 5 = .ok (.l2i, 1) := by decide +kernel
theorem dX2_signFromEnd_6 : decode cX2_signFromEnd 6 = .ok (.bipush 31, 2) := by decide +kernel
theorem dX2_signFromEnd_8 : decode cX2_signFromEnd 8 = .ok (.iand, 1) := by decide +kernel
theorem dX2_signFromEnd_9 : decode cX2_signFromEnd 9 = .ok (.istore_n 3, 1) := by decide +kernel
theorem dX2_signFromEnd_10 : decode cX2_signFromEnd 10 = .ok (.iload_n 3, 1) := by decide +kernel
theorem dX2_signFromEnd_11 : decode cX2_signFromEnd 11 = .ok (.ifCond .ne 5, 3) := by decide +kernel
theorem dX2_signFromEnd_14 : decode cX2_signFromEnd 14 = .ok (.iconst 0, 1) := by decide +kernel
theorem dX2_signFromEnd_15 : decode cX2_signFromEnd 15 = .ok (.ireturn, 1) := by decide +kernel
theorem dX2_signFromEnd_16 : decode cX2_signFromEnd 16 = .ok (.iload_n 3, 1) := by decide +kernel
theorem dX2_signFromEnd_17 : decode cX2_signFromEnd 17 = .ok (.bipush 27, 2) := by decide +kernel
theorem dX2_signFromEnd_19 : decode cX2_signFromEnd 19 = .ok (.if_icmp .ne 8, 3) := by decide +kernel
theorem dX2_signFromEnd_22 : decode cX2_signFromEnd 22 = .ok (.bipush 45, 2) := by decide +kernel
theorem dX2_signFromEnd_24 : decode cX2_signFromEnd 24 = .ok (.goto 9, 3) := by decide +kernel
theorem dX2_signFromEnd_27 : decode cX2_signFromEnd 27 = .ok (.iload_n 3, 1) := by decide +kernel
theorem dX2_signFromEnd_28 : decode cX2_signFromEnd 28 = .ok (.bipush 97, 2) := by decide +kernel
theorem dX2_signFromEnd_30 : decode cX2_signFromEnd 30 = .ok (.iadd, 1) := by decide +kernel
theorem dX2_signFromEnd_31 : decode cX2_signFromEnd 31 = .ok (.iconst 1, 1) := by decide +kernel
theorem dX2_signFromEnd_32 : decode cX2_signFromEnd 32 = .ok (.isub, 1) := by decide +kernel
theorem dX2_signFromEnd_33 : decode cX2_signFromEnd 33 = .ok (.ireturn, 1) := by decide +kernel
theorem dX3_init_0 : decode cX3_init 0 = .ok (.aload_n 0, 1) := by decide +kernel
theorem dX3_init_1 : decode cX3_init 1 = .ok (.invokespecial 5, 3) := by decide +kernel
theorem dX3_init_4 : decode cX3_init 4 = .ok (.aload_n 0, 1) := by decide +kernel
theorem dX3_init_5 : decode cX3_init 5 = .ok (.sipush 1332, 3) := by decide +kernel
theorem dX3_init_8 : decode cX3_init 8 = .ok (.newarray .byte, 2) := by decide +kernel
theorem dX3_init_10 : decode cX3_init 10 = .ok (.putfield 13, 3) := by decide +kernel
theorem dX3_init_13 : decode cX3_init 13 = .ok (.aload_n 0, 1) := by decide +kernel
theorem dX3_init_14 : decode cX3_init 14 = .ok (.iconst 0, 1) := by decide +kernel
theorem dX3_init_15 : decode cX3_init 15 = .ok (.putfield 17, 3) := by decide +kernel
theorem dX3_init_18 : decode cX3_init 18 = .ok (.return_, 1) := by decide +kernel
theorem dX3_writeAll_0 : decode cX3_writeAll 0 = .ok (.aload_n 0, 1) := by decide +kernel
theorem dX3_writeAll_1 : decode cX3_writeAll 1 = .ok (.iconst 0, 1) := by decide +kernel
theorem dX3_writeAll_2 : decode cX3_writeAll 2 = .ok (.putfield 17, 3) := by decide +kernel
theorem dX3_writeAll_5 : decode cX3_writeAll 5 = .ok (.iconst 0, 1) := by decide +kernel
theorem dX3_writeAll_6 : decode cX3_writeAll 6 = .ok (.istore_n 2, 1) := by decide +kernel
theorem dX3_writeAll_7 : decode cX3_writeAll 7 = .ok (.iload_n 2, 1) := by decide +kernel
theorem dX3_writeAll_8 : decode cX3_writeAll 8 = .ok (.aload_n 1, 1) := by decide +kernel
theorem dX3_writeAll_9 : decode cX3_writeAll 9 = .ok (.getfield 21, 3) := by decide +kernel
theorem dX3_writeAll_12 : decode cX3_writeAll 12 = .ok (.if_icmp .ge 55, 3) := by decide +kernel
theorem dX3_writeAll_15 : decode cX3_writeAll 15 = .ok (.iload_n 2, 1) := by decide +kernel
theorem dX3_writeAll_16 : decode cX3_writeAll 16 = .ok (.ifCond .le 9, 3) := by decide +kernel
theorem dX3_writeAll_19 : decode cX3_writeAll 19 = .ok (.aload_n 0, 1) := by decide +kernel
theorem dX3_writeAll_20 : decode cX3_writeAll 20 = .ok (.bipush 32, 2) := by decide +kernel
theorem dX3_writeAll_22 : decode cX3_writeAll 22 = .ok (.invokevirtual 26, 3) := by decide +kernel
theorem dX3_writeAll_25 : decode cX3_writeAll 25 = .ok (.aload_n 0, 1) := by decide +kernel
theorem dX3_writeAll_26 : decode cX3_writeAll 26 = .ok (.aload_n 1, 1) := by decide +kernel
theorem dX3_writeAll_27 : decode cX3_writeAll 27 = .ok (.getfield 30, 3) := by decide +kernel
theorem dX3_writeAll_30 : decode cX3_writeAll 30 = .ok (.iload_n 2, 1) := by decide +kernel
theorem dX3_writeAll_31 : decode cX3_writeAll 31 = .ok (.laload, 1) := by decide +kernel
theorem dX3_writeAll_32 : decode cX3_writeAll 32 = .ok (.invokevirtual 34, 3) := by decide +kernel
theorem dX3_writeAll_35 : decode cX3_writeAll 35 = .ok (.aload_n 0, 1) := by decide +kernel
theorem dX3_writeAll_36 : decode cX3_writeAll 36 = .ok (.bipush 58, 2) := by decide +kernel
theorem dX3_writeAll_38 : decode cX3_writeAll 38 = .ok (.invokevirtual 26, 3) := by decide +kernel
theorem dX3_writeAll_41 : decode cX3_writeAll 41 = .ok (.aload_n 0, 1) := by decide +kernel
theorem dX3_writeAll_42 : decode cX3_writeAll 42 = .ok (.aload_n 1, 1) := by decide +kernel
theorem dX3_writeAll_43 : decode cX3_writeAll 43 = .ok (.iload_n 2, 1) := by decide +kernel
theorem dX3_writeAll_44 : decode cX3_writeAll 44 = .ok (.invokevirtual 38, 3) := by decide +kernel
theorem dX3_writeAll_47 : decode cX3_writeAll 47 = .ok (.aload_n 1, 1) := by decide +kernel
theorem dX3_writeAll_48 : decode cX3_writeAll 48 = .ok (.iload_n 2, 1) := by decide +kernel
theorem dX3_writeAll_49 : decode cX3_writeAll 49 = .ok (.invokevirtual 42, 3) := by decide +kernel
theorem dX3_writeAll_52 : decode cX3_writeAll 52 = .ok (.ifCond .eq 9, 3) := by decide +kernel
theorem dX3_writeAll_55 : decode cX3_writeAll 55 = .ok (.aload_n 0, 1) := by decide +kernel
theorem dX3_writeAll_56 : decode cX3_writeAll 56 = .ok (.bipush 42, 2) := by decide +kernel
theorem dX3_writeAll_58 : decode cX3_writeAll 58 = .ok (.invokevirtual 26, 3) := by decide +kernel
theorem dX3_writeAll_61 : decode cX3_writeAll 61 = .ok (.iinc 2 1, 3) := by decide +kernel
theorem dX3_writeAll_64 : decode cX3_writeAll 64 = .ok (.goto (-57), 3) := by decide +kernel
theorem dX3_writeAll_67 : decode cX3_writeAll 67 = .ok (.aload_n 0, 1) := by decide +kernel
theorem dX3_writeAll_68 : decode cX3_writeAll 68 = .ok (.getfield 17, 3) := by decide +kernel
theorem dX3_writeAll_71 : decode cX3_writeAll 71 = .ok (.ireturn, 1) := by decide +kernel
theorem dX3_putHolders_0 : decode cX3_putHolders 0 = .ok (.iconst 1, 1) := by decide +kernel
theorem dX3_putHolders_1 : decode cX3_putHolders 1 = .ok (.istore_n 3, 1) := by decide +kernel
theorem dX3_putHolders_2 : decode cX3_putHolders 2 = .ok (.iconst 0, 1) := by decide +kernel
theorem dX3_putHolders_3 : decode cX3_putHolders 3 = .ok (.istore 4, 2) := by decide +kernel
theorem dX3_putHolders_5 : decode cX3_putHolders 5 = .ok (.iload 4, 2) := by decide +kernel
theorem dX3_putHolders_7 : decode cX3_putHolders 7 = .ok (.aload_n 1, 1) := by decide +kernel
theorem dX3_putHolders_8 : decode cX3_putHolders 8 = .ok (.getfield 46, 3) := by decide +kernel
theorem dX3_putHolders_11 : decode cX3_putHolders 11 = .ok (.if_icmp .ge 61, 3) := by decide +kernel
theorem dX3_putHolders_14 : decode cX3_putHolders 14 = .ok (.aload_n 1, 1) := by decide +kernel
theorem dX3_putHolders_15 : decode cX3_putHolders 15 = .ok (.iload_n 2, 1) := by decide +kernel
theorem dX3_putHolders_16 : decode cX3_putHolders 16 = .ok (.iload 4, 2) := by decide +kernel
theorem dX3_putHolders_18 : decode cX3_putHolders 18 = .ok (.invokevirtual 49, 3) := by decide +kernel
theorem dX3_putHolders_21 : decode cX3_putHolders 21 = .ok (.ifCond .ne 6, 3) := by decide +kernel
theorem dX3_putHolders_24 : decode cX3_putHolders 24 = .ok (.goto 42, 3) := by decide +kernel
theorem dX3_putHolders_27 : decode cX3_putHolders 27 = .ok (.iload_n 3, 1) := by decide +kernel
theorem dX3_putHolders_28 : decode cX3_putHolders 28 = .ok (.ifCond .ne 9, 3) := by decide +kernel
theorem dX3_putHolders_31 : decode cX3_putHolders 31 = .ok (.aload_n 0, 1) := by decide +kernel
theorem dX3_putHolders_32 : decode cX3_putHolders 32 = .ok (.bipush 44, 2) := by decide +kernel
theorem dX3_putHolders_34 : decode cX3_putHolders 34 = .ok (.invokevirtual 26, 3) := by decide +kernel
theorem dX3_putHolders_37 : decode cX3_putHolders 37 = .ok (.iconst 0, 1) := by decide +kernel
theorem dX3_putHolders_38 : decode cX3_putHolders 38 = .ok (.istore_n 3, 1) := by decide +kernel
theorem dX3_putHolders_39 : decode cX3_putHolders 39 = .ok (.aload_n 0, 1) := by decide +kernel
theorem dX3_putHolders_40 : decode cX3_putHolders 40 = .ok (.aload_n 1, 1) := by decide +kernel
theorem dX3_putHolders_41 : decode cX3_putHolders 41 = .ok (.getfield 53, 3) := by decide +kernel
theorem dX3_putHolders_44 : decode cX3_putHolders 44 = .ok (.iload 4, 2) := by decide +kernel
theorem dX3_putHolders_46 : decode cX3_putHolders 46 = .ok (.laload, 1) := by decide +kernel
theorem dX3_putHolders_47 : decode cX3_putHolders 47 = .ok (.invokevirtual 34, 3) := by decide +kernel
theorem dX3_putHolders_50 : decode cX3_putHolders 50 = .ok (.aload_n 1, 1) := by decide +kernel
theorem dX3_putHolders_51 : decode cX3_putHolders 51 = .ok (.iload_n 2, 1) := by decide +kernel
theorem dX3_putHolders_52 : decode cX3_putHolders 52 = .ok (.iload 4, 2) := by decide +kernel
theorem dX3_putHolders_54 : decode cX3_putHolders 54 = .ok (.invokevirtual 56, 3) := by decide +kernel
theorem dX3_putHolders_57 : decode cX3_putHolders 57 = .ok (.ifCond .ne 9, 3) := by decide +kernel
theorem dX3_putHolders_60 : decode cX3_putHolders 60 = .ok (.aload_n 0, 1) := by decide +kernel
theorem dX3_putHolders_61 : decode cX3_putHolders 61 = .ok (.bipush 33, 2) := by decide +kernel
theorem dX3_putHolders_63 : decode cX3_putHolders 63 = .ok (.invokevirtual 26, 3) := by decide +kernel
theorem dX3_putHolders_66 : decode cX3_putHolders 66 = .ok (.iinc 4 1, 3) := by decide +kernel
theorem dX3_putHolders_69 : decode cX3_putHolders 69 = .ok (.goto (-64), 3) := by decide +kernel
theorem dX3_putHolders_72 : decode cX3_putHolders 72 = .ok (.return_, 1) := by decide +kernel
theorem dX3_putName_0 : decode cX3_putName 0 = .ok (.bipush 7, 2) := by decide +kernel
theorem dX3_putName_2 : decode cX3_putName 2 = .ok (.istore_n 3, 1) := by decide +kernel
theorem dX3_putName_3 : decode cX3_putName 3 = .ok (.iload_n 3, 1) := by decide +kernel
theorem dX3_putName_4 : decode cX3_putName 4 = .ok (.ifCond .lt 27, 3) := by decide +kernel
theorem dX3_putName_7 : decode cX3_putName 7 = .ok (.lload_n 1, 1) := by decide +kernel
theorem dX3_putName_8 : decode cX3_putName 8 = .ok (.iload_n 3, 1) := by decide +kernel
theorem dX3_putName_9 : decode cX3_putName 9 = .ok (.invokestatic 59, 3) := by decide +kernel
theorem dX3_putName_12 : decode cX3_putName 12 = .ok (.istore 4, 2) := by decide +kernel
theorem dX3_putName_14 : decode cX3_putName 14 = .ok (.iload 4, 2) := by decide +kernel
theorem dX3_putName_16 : decode cX3_putName 16 = .ok (.ifCond .eq 9, 3) := by decide +kernel
theorem dX3_putName_19 : decode cX3_putName 19 = .ok (.aload_n 0, 1) := by decide +kernel
theorem dX3_putName_20 : decode cX3_putName 20 = .ok (.iload 4, 2) := by decide +kernel
theorem dX3_putName_22 : decode cX3_putName 22 = .ok (.invokevirtual 26, 3) := by decide +kernel
theorem dX3_putName_25 : decode cX3_putName 25 = .ok (.iinc 3 (-1), 3) := by decide +kernel
theorem dX3_putName_28 : decode cX3_putName 28 = .ok (.goto (-25), 3) := by decide +kernel
theorem dX3_putName_31 : decode cX3_putName 31 = .ok (.return_, 1) := by decide +kernel
theorem dX3_putSign_0 : decode cX3_putSign 0 = .ok (.aload_n 0, 1) := by decide +kernel
theorem dX3_putSign_1 : decode cX3_putSign 1 = .ok (.getfield 17, 3) := by decide +kernel
theorem dX3_putSign_4 : decode cX3_putSign 4 = .ok (.sipush 1332, 3) := by decide +kernel
theorem dX3_putSign_7 : decode cX3_putSign 7 = .ok (.if_icmp .ge 24, 3) := by decide +kernel
theorem dX3_putSign_10 : decode cX3_putSign 10 = .ok (.aload_n 0, 1) := by decide +kernel
theorem dX3_putSign_11 : decode cX3_putSign 11 = .ok (.getfield 13, 3) := by decide +kernel
theorem dX3_putSign_14 : decode cX3_putSign 14 = .ok (.aload_n 0, 1) := by decide +kernel
theorem dX3_putSign_15 : decode cX3_putSign 15 = .ok (.getfield 17, 3) := by decide +kernel
theorem dX3_putSign_18 : decode cX3_putSign 18 = .ok (.iload_n 1, 1) := by decide +kernel
theorem dX3_putSign_19 : decode cX3_putSign 19 = .ok (.i2b, 1) := by decide +kernel
theorem dX3_putSign_20 : decode cX3_putSign 20 = .ok (.bastore, 1) := by decide +kernel
theorem dX3_putSign_21 : decode cX3_putSign 21 = .ok (.aload_n 0, 1) := by decide +kernel
theorem dX3_putSign_22 : decode cX3_putSign 22 = .ok (.dup, 1) := by decide +kernel
theorem dX3_putSign_23 : decode cX3_putSign 23 = .ok (.getfield 17, 3) := by decide +kernel
theorem dX3_putSign_26 : decode cX3_putSign 26 = .ok (.iconst 1, 1) := by decide +kernel
theorem dX3_putSign_27 : decode cX3_putSign 27 = .ok (.iadd, 1) := by decide +kernel
theorem dX3_putSign_28 : decode cX3_putSign 28 = .ok (.putfield 17, 3) := by decide +kernel
theorem dX3_putSign_31 : decode cX3_putSign 31 = .ok (.return_, 1) := by decide +kernel
theorem dJ6_bitCount_0f7a4_0 : decode cJ6_bitCount_0f7a4 0 = .ok (.iload_n 0, 1) := by decide +kernel
theorem dJ6_bitCount_0f7a4_1 : decode cJ6_bitCount_0f7a4 1 = .ok (.iload_n 0, 1) := by decide +kernel
theorem dJ6_bitCount_0f7a4_2 : decode cJ6_bitCount_0f7a4 2 = .ok (.iconst 1, 1) := by decide +kernel
theorem dJ6_bitCount_0f7a4_3 : decode cJ6_bitCount_0f7a4 3 = .ok (.iushr, 1) := by decide +kernel
theorem dJ6_bitCount_0f7a4_4 : decode cJ6_bitCount_0f7a4 4 = .ok (.ldc_w 265, 3) := by decide +kernel
theorem dJ6_bitCount_0f7a4_7 : decode cJ6_bitCount_0f7a4 7 = .ok (.iand, 1) := by decide +kernel
theorem dJ6_bitCount_0f7a4_8 : decode cJ6_bitCount_0f7a4 8 = .ok (.isub, 1) := by decide +kernel
theorem dJ6_bitCount_0f7a4_9 : decode cJ6_bitCount_0f7a4 9 = .ok (.istore_n 0, 1) := by decide +kernel
theorem dJ6_bitCount_0f7a4_10 : decode cJ6_bitCount_0f7a4 10 = .ok (.iload_n 0, 1) := by decide +kernel
theorem dJ6_bitCount_0f7a4_11 : decode cJ6_bitCount_0f7a4 11 = .ok (.ldc_w 266, 3) := by decide +kernel
theorem dJ6_bitCount_0f7a4_14 : decode cJ6_bitCount_0f7a4 14 = .ok (.iand, 1) := by decide +kernel
theorem dJ6_bitCount_0f7a4_15 : decode cJ6_bitCount_0f7a4 15 = .ok (.iload_n 0, 1) := by decide +kernel
theorem dJ6_bitCount_0f7a4_16 : decode cJ6_bitCount_0f7a4 16 = .ok (.iconst 2, 1) := by decide +kernel
theorem dJ6_bitCount_0f7a4_17 : decode cJ6_bitCount_0f7a4 17 = .ok (.iushr, 1) := by decide +kernel
theorem dJ6_bitCount_0f7a4_18 : decode cJ6_bitCount_0f7a4 18 = .ok (.ldc_w 266, 3) := by decide +kernel
theorem dJ6_bitCount_0f7a4_21 : decode cJ6_bitCount_0f7a4 21 = .ok (.iand, 1) := by decide +kernel
theorem dJ6_bitCount_0f7a4_22 : decode cJ6_bitCount_0f7a4 22 = .ok (.iadd, 1) := by decide +kernel
theorem dJ6_bitCount_0f7a4_23 : decode cJ6_bitCount_0f7a4 23 = .ok (.istore_n 0, 1) := by decide +kernel
theorem dJ6_bitCount_0f7a4_24 : decode cJ6_bitCount_0f7a4 24 = .ok (.iload_n 0, 1) := by decide +kernel
theorem dJ6_bitCount_0f7a4_25 : decode cJ6_bitCount_0f7a4 25 = .ok (.iload_n 0, 1) := by decide +kernel
theorem dJ6_bitCount_0f7a4_26 : decode cJ6_bitCount_0f7a4 26 = .ok (.iconst 4, 1) := by decide +kernel
theorem dJ6_bitCount_0f7a4_27 : decode cJ6_bitCount_0f7a4 27 = .ok (.iushr, 1) := by decide +kernel
theorem dJ6_bitCount_0f7a4_28 : decode cJ6_bitCount_0f7a4 28 = .ok (.iadd, 1) := by decide +kernel
theorem dJ6_bitCount_0f7a4_29 : decode cJ6_bitCount_0f7a4 29 = .ok (.ldc_w 267, 3) := by decide +kernel
theorem dJ6_bitCount_0f7a4_32 : decode cJ6_bitCount_0f7a4 32 = .ok (.iand, 1) := by decide +kernel
theorem dJ6_bitCount_0f7a4_33 : decode cJ6_bitCount_0f7a4 33 = .ok (.istore_n 0, 1) := by decide +kernel
theorem dJ6_bitCount_0f7a4_34 : decode cJ6_bitCount_0f7a4 34 = .ok (.iload_n 0, 1) := by decide +kernel
theorem dJ6_bitCount_0f7a4_35 : decode cJ6_bitCount_0f7a4 35 = .ok (.iload_n 0, 1) := by decide +kernel
theorem dJ6_bitCount_0f7a4_36 : decode cJ6_bitCount_0f7a4 36 = .ok (.bipush 8, 2) := by decide +kernel
theorem dJ6_bitCount_0f7a4_38 : decode cJ6_bitCount_0f7a4 38 = .ok (.iushr, 1) := by decide +kernel
theorem dJ6_bitCount_0f7a4_39 : decode cJ6_bitCount_0f7a4 39 = .ok (.iadd, 1) := by decide +kernel
theorem dJ6_bitCount_0f7a4_40 : decode cJ6_bitCount_0f7a4 40 = .ok (.istore_n 0, 1) := by decide +kernel
theorem dJ6_bitCount_0f7a4_41 : decode cJ6_bitCount_0f7a4 41 = .ok (.iload_n 0, 1) := by decide +kernel
theorem dJ6_bitCount_0f7a4_42 : decode cJ6_bitCount_0f7a4 42 = .ok (.iload_n 0, 1) := by decide +kernel
theorem dJ6_bitCount_0f7a4_43 : decode cJ6_bitCount_0f7a4 43 = .ok (.bipush 16, 2) := by decide +kernel
theorem dJ6_bitCount_0f7a4_45 : decode cJ6_bitCount_0f7a4 45 = .ok (.iushr, 1) := by decide +kernel
theorem dJ6_bitCount_0f7a4_46 : decode cJ6_bitCount_0f7a4 46 = .ok (.iadd, 1) := by decide +kernel
theorem dJ6_bitCount_0f7a4_47 : decode cJ6_bitCount_0f7a4 47 = .ok (.istore_n 0, 1) := by decide +kernel
theorem dJ6_bitCount_0f7a4_48 : decode cJ6_bitCount_0f7a4 48 = .ok (.iload_n 0, 1) := by decide +kernel
theorem dJ6_bitCount_0f7a4_49 : decode cJ6_bitCount_0f7a4 49 = .ok (.bipush 63, 2) := by decide +kernel
theorem dJ6_bitCount_0f7a4_51 : decode cJ6_bitCount_0f7a4 51 = .ok (.iand, 1) := by decide +kernel
theorem dJ6_bitCount_0f7a4_52 : decode cJ6_bitCount_0f7a4 52 = .ok (.ireturn, 1) := by decide +kernel
theorem dJ9_min_7cf53_0 : decode cJ9_min_7cf53 0 = .ok (.iload_n 0, 1) := by decide +kernel
theorem dJ9_min_7cf53_1 : decode cJ9_min_7cf53 1 = .ok (.iload_n 1, 1) := by decide +kernel
theorem dJ9_min_7cf53_2 : decode cJ9_min_7cf53 2 = .ok (.if_icmp .gt 7, 3) := by decide +kernel
theorem dJ9_min_7cf53_5 : decode cJ9_min_7cf53 5 = .ok (.iload_n 0, 1) := by decide +kernel
theorem dJ9_min_7cf53_6 : decode cJ9_min_7cf53 6 = .ok (.goto 4, 3) := by decide +kernel
theorem dJ9_min_7cf53_9 : decode cJ9_min_7cf53 9 = .ok (.iload_n 1, 1) := by decide +kernel
theorem dJ9_min_7cf53_10 : decode cJ9_min_7cf53 10 = .ok (.ireturn, 1) := by decide +kernel
theorem dJ0_length_8abf5_0 : decode cJ0_length_8abf5 0 = .ok (.aload_n 0, 1) := by decide +kernel
theorem dJ0_length_8abf5_1 : decode cJ0_length_8abf5 1 = .ok (.getfield 9, 3) := by decide +kernel
theorem dJ0_length_8abf5_4 : decode cJ0_length_8abf5 4 = .ok (.arraylength, 1) := by decide +kernel
theorem dJ0_length_8abf5_5 : decode cJ0_length_8abf5 5 = .ok (.aload_n 0, 1) := by decide +kernel
theorem dJ0_length_8abf5_6 : decode cJ0_length_8abf5 6 = .ok (.invokevirtual 335, 3) := by decide +kernel
theorem dJ0_length_8abf5_9 : decode cJ0_length_8abf5 9 = .ok (.ishr, 1) := by decide +kernel
theorem dJ0_length_8abf5_10 : decode cJ0_length_8abf5 10 = .ok (.ireturn, 1) := by decide +kernel
theorem dJ0_charAt_5068e_0 : decode cJ0_charAt_5068e 0 = .ok (.aload_n 0, 1) := by decide +kernel
theorem dJ0_charAt_5068e_1 : decode cJ0_charAt_5068e 1 = .ok (.invokevirtual 492, 3) := by decide +kernel
theorem dJ0_charAt_5068e_4 : decode cJ0_charAt_5068e 4 = .ok (.ifCond .eq 12, 3) := by decide +kernel
theorem dJ0_charAt_5068e_7 : decode cJ0_charAt_5068e 7 = .ok (.aload_n 0, 1) := by decide +kernel
theorem dJ0_charAt_5068e_8 : decode cJ0_charAt_5068e 8 = .ok (.getfield 9, 3) := by decide +kernel
theorem dJ0_charAt_5068e_11 : decode cJ0_charAt_5068e 11 = .ok (.iload_n 1, 1) := by decide +kernel
theorem dJ0_charAt_5068e_12 : decode cJ0_charAt_5068e 12 = .ok (.invokestatic 495, 3) := by decide +kernel
theorem dJ0_charAt_5068e_15 : decode cJ0_charAt_5068e 15 = .ok (.ireturn, 1) := by decide +kernel
theorem dJ0_charAt_5068e_16 : decode cJ0_charAt_5068e 16 = .ok (.aload_n 0, 1) := by decide +kernel
theorem dJ0_charAt_5068e_17 : decode cJ0_charAt_5068e 17 = .ok (.getfield 9, 3) := by decide +kernel
theorem dJ0_charAt_5068e_20 : decode cJ0_charAt_5068e 20 = .ok (.iload_n 1, 1) := by decide +kernel
theorem dJ0_charAt_5068e_21 : decode cJ0_charAt_5068e 21 = .ok (.invokestatic 498, 3) := by decide +kernel
theorem dJ0_charAt_5068e_24 : decode cJ0_charAt_5068e 24 = .ok (.ireturn, 1) := by decide +kernel
theorem dJ0_coder_7d493_0 : decode cJ0_coder_7d493 0 = .ok (.getstatic 38, 3) := by decide +kernel
theorem dJ0_coder_7d493_3 : decode cJ0_coder_7d493 3 = .ok (.ifCond .eq 10, 3) := by decide +kernel
theorem dJ0_coder_7d493_6 : decode cJ0_coder_7d493 6 = .ok (.aload_n 0, 1) := by decide +kernel
theorem dJ0_coder_7d493_7 : decode cJ0_coder_7d493 7 = .ok (.getfield 15, 3) := by decide +kernel
theorem dJ0_coder_7d493_10 : decode cJ0_coder_7d493 10 = .ok (.goto 4, 3) := by decide +kernel
theorem dJ0_coder_7d493_13 : decode cJ0_coder_7d493 13 = .ok (.iconst 1, 1) := by decide +kernel
theorem dJ0_coder_7d493_14 : decode cJ0_coder_7d493 14 = .ok (.ireturn, 1) := by decide +kernel
theorem dJ0_isLatin1_aae02_0 : decode cJ0_isLatin1_aae02 0 = .ok (.getstatic 38, 3) := by decide +kernel
theorem dJ0_isLatin1_aae02_3 : decode cJ0_isLatin1_aae02 3 = .ok (.ifCond .eq 14, 3) := by decide +kernel
theorem dJ0_isLatin1_aae02_6 : decode cJ0_isLatin1_aae02 6 = .ok (.aload_n 0, 1) := by decide +kernel
theorem dJ0_isLatin1_aae02_7 : decode cJ0_isLatin1_aae02 7 = .ok (.getfield 15, 3) := by decide +kernel
theorem dJ0_isLatin1_aae02_10 : decode cJ0_isLatin1_aae02 10 = .ok (.ifCond .ne 7, 3) := by decide +kernel
theorem dJ0_isLatin1_aae02_13 : decode cJ0_isLatin1_aae02 13 = .ok (.iconst 1, 1) := by decide +kernel
theorem dJ0_isLatin1_aae02_14 : decode cJ0_isLatin1_aae02 14 = .ok (.goto 4, 3) := by decide +kernel
theorem dJ0_isLatin1_aae02_17 : decode cJ0_isLatin1_aae02 17 = .ok (.iconst 0, 1) := by decide +kernel
theorem dJ0_isLatin1_aae02_18 : decode cJ0_isLatin1_aae02 18 = .ok (.ireturn, 1) := by decide +kernel
theorem dJ0_checkIndex_df160_0 : decode cJ0_checkIndex_df160 0 = .ok (.iload_n 0, 1) := by decide +kernel
theorem dJ0_checkIndex_df160_1 : decode cJ0_checkIndex_df160 1 = .ok (.iload_n 1, 1) := by decide +kernel
theorem dJ0_checkIndex_df160_2 : decode cJ0_checkIndex_df160 2 = .ok (.getstatic 1053, 3) := by decide +kernel
theorem dJ0_checkIndex_df160_5 : decode cJ0_checkIndex_df160 5 = .ok (.invokestatic 1059, 3) := by decide +kernel
theorem dJ0_checkIndex_df160_8 : decode cJ0_checkIndex_df160 8 = .ok (.pop, 1) := by decide +kernel
theorem dJ0_checkIndex_df160_9 : decode cJ0_checkIndex_df160 9 = .ok (.return_, 1) := by decide +kernel
theorem dJ1_charAt_3b067_0 : decode cJ1_charAt_3b067 0 = .ok (.iload_n 1, 1) := by decide +kernel
theorem dJ1_charAt_3b067_1 : decode cJ1_charAt_3b067 1 = .ok (.aload_n 0, 1) := by decide +kernel
theorem dJ1_charAt_3b067_2 : decode cJ1_charAt_3b067 2 = .ok (.arraylength, 1) := by decide +kernel
theorem dJ1_charAt_3b067_3 : decode cJ1_charAt_3b067 3 = .ok (.invokestatic 9, 3) := by decide +kernel
theorem dJ1_charAt_3b067_6 : decode cJ1_charAt_3b067 6 = .ok (.aload_n 0, 1) := by decide +kernel
theorem dJ1_charAt_3b067_7 : decode cJ1_charAt_3b067 7 = .ok (.iload_n 1, 1) := by decide +kernel
theorem dJ1_charAt_3b067_8 : decode cJ1_charAt_3b067 8 = .ok (.baload, 1) := by decide +kernel
theorem dJ1_charAt_3b067_9 : decode cJ1_charAt_3b067 9 = .ok (.sipush 255, 3) := by decide +kernel
theorem dJ1_charAt_3b067_12 : decode cJ1_charAt_3b067 12 = .ok (.iand, 1) := by decide +kernel
theorem dJ1_charAt_3b067_13 : decode cJ1_charAt_3b067 13 = .ok (.i2c, 1) := by decide +kernel
theorem dJ1_charAt_3b067_14 : decode cJ1_charAt_3b067 14 = .ok (.ireturn, 1) := by decide +kernel
theorem dJ2_getChar_3b067_0 : decode cJ2_getChar_3b067 0 = .ok (.getstatic 44, 3) := by decide +kernel
theorem dJ2_getChar_3b067_3 : decode cJ2_getChar_3b067 3 = .ok (.ifCond .ne 25, 3) := by decide +kernel
theorem dJ2_getChar_3b067_6 : decode cJ2_getChar_3b067 6 = .ok (.iload_n 1, 1) := by decide +kernel
theorem dJ2_getChar_3b067_7 : decode cJ2_getChar_3b067 7 = .ok (.ifCond .lt 11, 3) := by decide +kernel
theorem dJ2_getChar_3b067_10 : decode cJ2_getChar_3b067 10 = .ok (.iload_n 1, 1) := by decide +kernel
theorem dJ2_getChar_3b067_11 : decode cJ2_getChar_3b067 11 = .ok (.aload_n 0, 1) := by decide +kernel
theorem dJ2_getChar_3b067_12 : decode cJ2_getChar_3b067 12 = .ok (.invokestatic 48, 3) := by decide +kernel
theorem dJ2_getChar_3b067_15 : decode cJ2_getChar_3b067 15 = .ok (.if_icmp .lt 13, 3) := by decide +kernel
theorem dJ2_getChar_3b067_18 : decode cJ2_getChar_3b067 18 = .ok (.new 52, 3) := by decide +kernel
theorem dJ2_getChar_3b067_21 : decode cJ2_getChar_3b067 21 = .ok (.dup, 1) := by decide +kernel
theorem dJ2_getChar_3b067_22 : decode cJ2_getChar_3b067 22 = .ok (.ldc 54, 2) := by decide +kernel
theorem dJ2_getChar_3b067_24 : decode cJ2_getChar_3b067 24 = .ok (.invokespecial 56, 3) := by decide +kernel
theorem dJ2_getChar_3b067_27 : decode cJ2_getChar_3b067 27 = .ok (.athrow, 1) := by decide +kernel
theorem dJ2_getChar_3b067_28 : decode cJ2_getChar_3b067 28 = .ok (.iload_n 1, 1) := by decide +kernel
theorem dJ2_getChar_3b067_29 : decode cJ2_getChar_3b067 29 = .ok (.iconst 1, 1) := by decide +kernel
theorem dJ2_getChar_3b067_30 : decode cJ2_getChar_3b067 30 = .ok (.ishl, 1) := by decide +kernel
theorem dJ2_getChar_3b067_31 : decode cJ2_getChar_3b067 31 = .ok (.istore_n 1, 1) := by decide +kernel
theorem dJ2_getChar_3b067_32 : decode cJ2_getChar_3b067 32 = .ok (.aload_n 0, 1) := by decide +kernel
theorem dJ2_getChar_3b067_33 : decode cJ2_getChar_3b067 33 = .ok (.iload_n 1, 1) := by decide +kernel
theorem dJ2_getChar_3b067_34 : decode cJ2_getChar_3b067 34 = .ok (.iinc 1 1, 3) := by decide +kernel
theorem dJ2_getChar_3b067_37 : decode cJ2_getChar_3b067 37 = .ok (.baload, 1) := by decide +kernel
theorem dJ2_getChar_3b067_38 : decode cJ2_getChar_3b067 38 = .ok (.sipush 255, 3) := by decide +kernel
theorem dJ2_getChar_3b067_41 : decode cJ2_getChar_3b067 41 = .ok (.iand, 1) := by decide +kernel
theorem dJ2_getChar_3b067_42 : decode cJ2_getChar_3b067 42 = .ok (.getstatic 59, 3) := by decide +kernel
theorem dJ2_getChar_3b067_45 : decode cJ2_getChar_3b067 45 = .ok (.ishl, 1) := by decide +kernel
theorem dJ2_getChar_3b067_46 : decode cJ2_getChar_3b067 46 = .ok (.aload_n 0, 1) := by decide +kernel
theorem dJ2_getChar_3b067_47 : decode cJ2_getChar_3b067 47 = .ok (.iload_n 1, 1) := by decide +kernel
theorem dJ2_getChar_3b067_48 : decode cJ2_getChar_3b067 48 = .ok (.baload, 1) := by decide +kernel
theorem dJ2_getChar_3b067_49 : decode cJ2_getChar_3b067 49 = .ok (.sipush 255, 3) := by decide +kernel
theorem dJ2_getChar_3b067_52 : decode cJ2_getChar_3b067 52 = .ok (.iand, 1) := by decide +kernel
theorem dJ2_getChar_3b067_53 : decode cJ2_getChar_3b067 53 = .ok (.getstatic 63, 3) := by decide +kernel
theorem dJ2_getChar_3b067_56 : decode cJ2_getChar_3b067 56 = .ok (.ishl, 1) := by decide +kernel
theorem dJ2_getChar_3b067_57 : decode cJ2_getChar_3b067 57 = .ok (.ior, 1) := by decide +kernel
theorem dJ2_getChar_3b067_58 : decode cJ2_getChar_3b067 58 = .ok (.i2c, 1) := by decide +kernel
theorem dJ2_getChar_3b067_59 : decode cJ2_getChar_3b067 59 = .ok (.ireturn, 1) := by decide +kernel
theorem dJ2_length_9d52b_0 : decode cJ2_length_9d52b 0 = .ok (.aload_n 0, 1) := by decide +kernel
theorem dJ2_length_9d52b_1 : decode cJ2_length_9d52b 1 = .ok (.arraylength, 1) := by decide +kernel
theorem dJ2_length_9d52b_2 : decode cJ2_length_9d52b 2 = .ok (.iconst 1, 1) := by decide +kernel
theorem dJ2_length_9d52b_3 : decode cJ2_length_9d52b 3 = .ok (.ishr, 1) := by decide +kernel
theorem dJ2_length_9d52b_4 : decode cJ2_length_9d52b 4 = .ok (.ireturn, 1) := by decide +kernel
theorem dJ2_charAt_3b067_0 : decode cJ2_charAt_3b067 0 = .ok (.iload_n 1, 1) := by decide +kernel
theorem dJ2_charAt_3b067_1 : decode cJ2_charAt_3b067 1 = .ok (.aload_n 0, 1) := by decide +kernel
theorem dJ2_charAt_3b067_2 : decode cJ2_charAt_3b067 2 = .ok (.invokestatic 67, 3) := by decide +kernel
theorem dJ2_charAt_3b067_5 : decode cJ2_charAt_3b067 5 = .ok (.aload_n 0, 1) := by decide +kernel
theorem dJ2_charAt_3b067_6 : decode cJ2_charAt_3b067 6 = .ok (.iload_n 1, 1) := by decide +kernel
theorem dJ2_charAt_3b067_7 : decode cJ2_charAt_3b067 7 = .ok (.invokestatic 71, 3) := by decide +kernel
theorem dJ2_charAt_3b067_10 : decode cJ2_charAt_3b067 10 = .ok (.ireturn, 1) := by decide +kernel
theorem dJ2_checkIndex_2214a_0 : decode cJ2_checkIndex_2214a 0 = .ok (.iload_n 0, 1) := by decide +kernel
theorem dJ2_checkIndex_2214a_1 : decode cJ2_checkIndex_2214a 1 = .ok (.aload_n 1, 1) := by decide +kernel
theorem dJ2_checkIndex_2214a_2 : decode cJ2_checkIndex_2214a 2 = .ok (.invokestatic 48, 3) := by decide +kernel
theorem dJ2_checkIndex_2214a_5 : decode cJ2_checkIndex_2214a 5 = .ok (.invokestatic 414, 3) := by decide +kernel
theorem dJ2_checkIndex_2214a_8 : decode cJ2_checkIndex_2214a 8 = .ok (.return_, 1) := by decide +kernel
theorem dJ7_fill_d0a16_0 : decode cJ7_fill_d0a16 0 = .ok (.iconst 0, 1) := by decide +kernel
theorem dJ7_fill_d0a16_1 : decode cJ7_fill_d0a16 1 = .ok (.istore_n 3, 1) := by decide +kernel
theorem dJ7_fill_d0a16_2 : decode cJ7_fill_d0a16 2 = .ok (.aload_n 0, 1) := by decide +kernel
theorem dJ7_fill_d0a16_3 : decode cJ7_fill_d0a16 3 = .ok (.arraylength, 1) := by decide +kernel
theorem dJ7_fill_d0a16_4 : decode cJ7_fill_d0a16 4 = .ok (.istore 4, 2) := by decide +kernel
theorem dJ7_fill_d0a16_6 : decode cJ7_fill_d0a16 6 = .ok (.iload_n 3, 1) := by decide +kernel
theorem dJ7_fill_d0a16_7 : decode cJ7_fill_d0a16 7 = .ok (.iload 4, 2) := by decide +kernel
theorem dJ7_fill_d0a16_9 : decode cJ7_fill_d0a16 9 = .ok (.if_icmp .ge 13, 3) := by decide +kernel
theorem dJ7_fill_d0a16_12 : decode cJ7_fill_d0a16 12 = .ok (.aload_n 0, 1) := by decide +kernel
theorem dJ7_fill_d0a16_13 : decode cJ7_fill_d0a16 13 = .ok (.iload_n 3, 1) := by decide +kernel
theorem dJ7_fill_d0a16_14 : decode cJ7_fill_d0a16 14 = .ok (.lload_n 1, 1) := by decide +kernel
theorem dJ7_fill_d0a16_15 : decode cJ7_fill_d0a16 15 = .ok (.lastore, 1) := by decide +kernel
theorem dJ7_fill_d0a16_16 : decode cJ7_fill_d0a16 16 = .ok (.iinc 3 1, 3) := by decide +kernel
theorem dJ7_fill_d0a16_19 : decode cJ7_fill_d0a16 19 = .ok (.goto (-13), 3) := by decide +kernel
theorem dJ7_fill_d0a16_22 : decode cJ7_fill_d0a16 22 = .ok (.return_, 1) := by decide +kernel
theorem dJ7_fill_53178_0 : decode cJ7_fill_53178 0 = .ok (.iconst 0, 1) := by decide +kernel
theorem dJ7_fill_53178_1 : decode cJ7_fill_53178 1 = .ok (.istore_n 2, 1) := by decide +kernel
theorem dJ7_fill_53178_2 : decode cJ7_fill_53178 2 = .ok (.aload_n 0, 1) := by decide +kernel
theorem dJ7_fill_53178_3 : decode cJ7_fill_53178 3 = .ok (.arraylength, 1) := by decide +kernel
theorem dJ7_fill_53178_4 : decode cJ7_fill_53178 4 = .ok (.istore_n 3, 1) := by decide +kernel
theorem dJ7_fill_53178_5 : decode cJ7_fill_53178 5 = .ok (.iload_n 2, 1) := by decide +kernel
theorem dJ7_fill_53178_6 : decode cJ7_fill_53178 6 = .ok (.iload_n 3, 1) := by decide +kernel
theorem dJ7_fill_53178_7 : decode cJ7_fill_53178 7 = .ok (.if_icmp .ge 13, 3) := by decide +kernel
theorem dJ7_fill_53178_10 : decode cJ7_fill_53178 10 = .ok (.aload_n 0, 1) := by decide +kernel
theorem dJ7_fill_53178_11 : decode cJ7_fill_53178 11 = .ok (.iload_n 2, 1) := by decide +kernel
theorem dJ7_fill_53178_12 : decode cJ7_fill_53178 12 = .ok (.iload_n 1, 1) := by decide +kernel
theorem dJ7_fill_53178_13 : decode cJ7_fill_53178 13 = .ok (.iastore, 1) := by decide +kernel
theorem dJ7_fill_53178_14 : decode cJ7_fill_53178 14 = .ok (.iinc 2 1, 3) := by decide +kernel
theorem dJ7_fill_53178_17 : decode cJ7_fill_53178 17 = .ok (.goto (-12), 3) := by decide +kernel
theorem dJ7_fill_53178_20 : decode cJ7_fill_53178 20 = .ok (.return_, 1) := by decide +kernel
theorem dJ3_checkIndex_8e157_0 : decode cJ3_checkIndex_8e157 0 = .ok (.iload_n 0, 1) := by decide +kernel
theorem dJ3_checkIndex_8e157_1 : decode cJ3_checkIndex_8e157 1 = .ok (.ifCond .lt 8, 3) := by decide +kernel
theorem dJ3_checkIndex_8e157_4 : decode cJ3_checkIndex_8e157 4 = .ok (.iload_n 0, 1) := by decide +kernel
theorem dJ3_checkIndex_8e157_5 : decode cJ3_checkIndex_8e157 5 = .ok (.iload_n 1, 1) := by decide +kernel
theorem dJ3_checkIndex_8e157_6 : decode cJ3_checkIndex_8e157 6 = .ok (.if_icmp .lt 10, 3) := by decide +kernel
theorem dJ3_checkIndex_8e157_9 : decode cJ3_checkIndex_8e157 9 = .ok (.aload_n 2, 1) := by decide +kernel
theorem dJ3_checkIndex_8e157_10 : decode cJ3_checkIndex_8e157 10 = .ok (.iload_n 0, 1) := by decide +kernel
theorem dJ3_checkIndex_8e157_11 : decode cJ3_checkIndex_8e157 11 = .ok (.iload_n 1, 1) := by decide +kernel
theorem dJ3_checkIndex_8e157_12 : decode cJ3_checkIndex_8e157 12 = .ok (.invokestatic 95, 3) := by decide +kernel
theorem dJ3_checkIndex_8e157_15 : decode cJ3_checkIndex_8e157 15 = .ok (.athrow, 1) := by decide +kernel
theorem dJ3_checkIndex_8e157_16 : decode cJ3_checkIndex_8e157 16 = .ok (.iload_n 0, 1) := by decide +kernel
theorem dJ3_checkIndex_8e157_17 : decode cJ3_checkIndex_8e157 17 = .ok (.ireturn, 1) := by decide +kernel
end
section
theorem dX0_init_0 : decode cX0_init 0 = .ok (.aload_n 0, 1) := by decide +kernel
theorem dX0_init_1 : decode cX0_init 1 = .ok (.invokespecial 3, 3) := by decide +kernel
theorem dX0_init_4 : decode cX0_init 4 = .ok (.aload_n 0, 1) := by decide +kernel
theorem dX0_init_5 : decode cX0_init 5 = .ok (.bipush 10, 2) := by decide +kernel
theorem dX0_init_7 : decode cX0_init 7 = .ok (.newarray .long, 2) := by decide +kernel
theorem dX0_init_9 : decode cX0_init 9 = .ok (.putfield 9, 3) := by decide +kernel
theorem dX0_init_12 : decode cX0_init 12 = .ok (.aload_n 0, 1) := by decide +kernel
theorem dX0_init_13 : decode cX0_init 13 = .ok (.bipush 10, 2) := by decide +kernel
theorem dX0_init_15 : decode cX0_init 15 = .ok (.newarray .int, 2) := by decide +kernel
theorem dX0_init_17 : decode cX0_init 17 = .ok (.putfield 15, 3) := by decide +kernel
theorem dX0_init_20 : decode cX0_init 20 = .ok (.aload_n 0, 1) := by decide +kernel
theorem dX0_init_21 : decode cX0_init 21 = .ok (.bipush 10, 2) := by decide +kernel
theorem dX0_init_23 : decode cX0_init 23 = .ok (.newarray .int, 2) := by decide +kernel
theorem dX0_init_25 : decode cX0_init 25 = .ok (.putfield 19, 3) := by decide +kernel
theorem dX0_init_28 : decode cX0_init 28 = .ok (.aload_n 0, 1) := by decide +kernel
theorem dX0_init_29 : decode cX0_init 29 = .ok (.bipush 10, 2) := by decide +kernel
theorem dX0_init_31 : decode cX0_init 31 = .ok (.newarray .int, 2) := by decide +kernel
theorem dX0_init_33 : decode cX0_init 33 = .ok (.putfield 22, 3) := by decide +kernel
theorem dX0_init_36 : decode cX0_init 36 = .ok (.aload_n 0, 1) := by decide +kernel
theorem dX0_init_37 : decode cX0_init 37 = .ok (.bipush 10, 2) := by decide +kernel
theorem dX0_init_39 : decode cX0_init 39 = .ok (.newarray .int, 2) := by decide +kernel
theorem dX0_init_41 : decode cX0_init 41 = .ok (.putfield 25, 3) := by decide +kernel
theorem dX0_init_44 : decode cX0_init 44 = .ok (.aload_n 0, 1) := by decide +kernel
theorem dX0_init_45 : decode cX0_init 45 = .ok (.bipush 10, 2) := by decide +kernel
theorem dX0_init_47 : decode cX0_init 47 = .ok (.newarray .int, 2) := by decide +kernel
theorem dX0_init_49 : decode cX0_init 49 = .ok (.putfield 28, 3) := by decide +kernel
theorem dX0_init_52 : decode cX0_init 52 = .ok (.aload_n 0, 1) := by decide +kernel
theorem dX0_init_53 : decode cX0_init 53 = .ok (.bipush 12, 2) := by decide +kernel
theorem dX0_init_55 : decode cX0_init 55 = .ok (.newarray .long, 2) := by decide +kernel
theorem dX0_init_57 : decode cX0_init 57 = .ok (.putfield 31, 3) := by decide +kernel
theorem dX0_init_60 : decode cX0_init 60 = .ok (.aload_n 0, 1) := by decide +kernel
theorem dX0_init_61 : decode cX0_init 61 = .ok (.bipush 12, 2) := by decide +kernel
theorem dX0_init_63 : decode cX0_init 63 = .ok (.newarray .int, 2) := by decide +kernel
theorem dX0_init_65 : decode cX0_init 65 = .ok (.putfield 34, 3) := by decide +kernel
theorem dX0_init_68 : decode cX0_init 68 = .ok (.aload_n 0, 1) := by decide +kernel
theorem dX0_init_69 : decode cX0_init 69 = .ok (.bipush 12, 2) := by decide +kernel
theorem dX0_init_71 : decode cX0_init 71 = .ok (.newarray .int, 2) := by decide +kernel
theorem dX0_init_73 : decode cX0_init 73 = .ok (.putfield 37, 3) := by decide +kernel
theorem dX0_init_76 : decode cX0_init 76 = .ok (.aload_n 0, 1) := by decide +kernel
theorem dX0_init_77 : decode cX0_init 77 = .ok (.bipush 12, 2) := by decide +kernel
theorem dX0_init_79 : decode cX0_init 79 = .ok (.newarray .int, 2) := by decide +kernel
theorem dX0_init_81 : decode cX0_init 81 = .ok (.putfield 40, 3) := by decide +kernel
theorem dX0_init_84 : decode cX0_init 84 = .ok (.aload_n 0, 1) := by decide +kernel
theorem dX0_init_85 : decode cX0_init 85 = .ok (.bipush 120, 2) := by decide +kernel
theorem dX0_init_87 : decode cX0_init 87 = .ok (.newarray .int, 2) := by decide +kernel
theorem dX0_init_89 : decode cX0_init 89 = .ok (.putfield 43, 3) := by decide +kernel
theorem dX0_init_92 : decode cX0_init 92 = .ok (.return_, 1) := by decide +kernel
theorem dX0_startEmpty_0 : decode cX0_startEmpty 0 = .ok (.aload_n 0, 1) := by decide +kernel
theorem dX0_startEmpty_1 : decode cX0_startEmpty 1 = .ok (.iload_n 1, 1) := by decide +kernel
theorem dX0_startEmpty_2 : decode cX0_startEmpty 2 = .ok (.putfield 46, 3) := by decide +kernel
theorem dX0_startEmpty_5 : decode cX0_startEmpty 5 = .ok (.aload_n 0, 1) := by decide +kernel
theorem dX0_startEmpty_6 : decode cX0_startEmpty 6 = .ok (.iconst 0, 1) := by decide +kernel
theorem dX0_startEmpty_7 : decode cX0_startEmpty 7 = .ok (.putfield 50, 3) := by decide +kernel
theorem dX0_startEmpty_10 : decode cX0_startEmpty 10 = .ok (.aload_n 0, 1) := by decide +kernel
theorem dX0_startEmpty_11 : decode cX0_startEmpty 11 = .ok (.iconst 0, 1) := by decide +kernel
theorem dX0_startEmpty_12 : decode cX0_startEmpty 12 = .ok (.putfield 53, 3) := by decide +kernel
theorem dX0_startEmpty_15 : decode cX0_startEmpty 15 = .ok (.aload_n 0, 1) := by decide +kernel
theorem dX0_startEmpty_16 : decode cX0_startEmpty 16 = .ok (.iconst 0, 1) := by decide +kernel
theorem dX0_startEmpty_17 : decode cX0_startEmpty 17 = .ok (.putfield 56, 3) := by decide +kernel
theorem dX0_startEmpty_20 : decode cX0_startEmpty 20 = .ok (.aload_n 0, 1) := by decide +kernel
theorem dX0_startEmpty_21 : decode cX0_startEmpty 21 = .ok (.iconst 0, 1) := by decide +kernel
theorem dX0_startEmpty_22 : decode cX0_startEmpty 22 = .ok (.putfield 59, 3) := by decide +kernel
theorem dX0_startEmpty_25 : decode cX0_startEmpty 25 = .ok (.aload_n 0, 1) := by decide +kernel
theorem dX0_startEmpty_26 : decode cX0_startEmpty 26 = .ok (.getfield 9, 3) := by decide +kernel
theorem dX0_startEmpty_29 : decode cX0_startEmpty 29 = .ok (.lconst 0, 1) := by decide +kernel
theorem dX0_startEmpty_30 : decode cX0_startEmpty 30 = .ok (.invokestatic 62, 3) := by decide +kernel
theorem dX0_startEmpty_33 : decode cX0_startEmpty 33 = .ok (.aload_n 0, 1) := by decide +kernel
theorem dX0_startEmpty_34 : decode cX0_startEmpty 34 = .ok (.getfield 15, 3) := by decide +kernel
theorem dX0_startEmpty_37 : decode cX0_startEmpty 37 = .ok (.iconst 0, 1) := by decide +kernel
theorem dX0_startEmpty_38 : decode cX0_startEmpty 38 = .ok (.invokestatic 68, 3) := by decide +kernel
theorem dX0_startEmpty_41 : decode cX0_startEmpty 41 = .ok (.aload_n 0, 1) := by decide +kernel
theorem dX0_startEmpty_42 : decode cX0_startEmpty 42 = .ok (.getfield 19, 3) := by decide +kernel
theorem dX0_startEmpty_45 : decode cX0_startEmpty 45 = .ok (.iconst 0, 1) := by decide +kernel
theorem dX0_startEmpty_46 : decode cX0_startEmpty 46 = .ok (.invokestatic 68, 3) := by decide +kernel
theorem dX0_startEmpty_49 : decode cX0_startEmpty 49 = .ok (.aload_n 0, 1) := by decide +kernel
theorem dX0_startEmpty_50 : decode cX0_startEmpty 50 = .ok (.getfield 22, 3) := by decide +kernel
theorem dX0_startEmpty_53 : decode cX0_startEmpty 53 = .ok (.iconst 0, 1) := by decide +kernel
theorem dX0_startEmpty_54 : decode cX0_startEmpty 54 = .ok (.invokestatic 68, 3) := by decide +kernel
theorem dX0_startEmpty_57 : decode cX0_startEmpty 57 = .ok (.aload_n 0, 1) := by decide +kernel
theorem dX0_startEmpty_58 : decode cX0_startEmpty 58 = .ok (.getfield 25, 3) := by decide +kernel
theorem dX0_startEmpty_61 : decode cX0_startEmpty 61 = .ok (.iconst 0, 1) := by decide +kernel
theorem dX0_startEmpty_62 : decode cX0_startEmpty 62 = .ok (.invokestatic 68, 3) := by decide +kernel
theorem dX0_startEmpty_65 : decode cX0_startEmpty 65 = .ok (.aload_n 0, 1) := by decide +kernel
theorem dX0_startEmpty_66 : decode cX0_startEmpty 66 = .ok (.getfield 28, 3) := by decide +kernel
theorem dX0_startEmpty_69 : decode cX0_startEmpty 69 = .ok (.iconst 0, 1) := by decide +kernel
theorem dX0_startEmpty_70 : decode cX0_startEmpty 70 = .ok (.invokestatic 68, 3) := by decide +kernel
theorem dX0_startEmpty_73 : decode cX0_startEmpty 73 = .ok (.aload_n 0, 1) := by decide +kernel
theorem dX0_startEmpty_74 : decode cX0_startEmpty 74 = .ok (.getfield 31, 3) := by decide +kernel
theorem dX0_startEmpty_77 : decode cX0_startEmpty 77 = .ok (.lconst 0, 1) := by decide +kernel
theorem dX0_startEmpty_78 : decode cX0_startEmpty 78 = .ok (.invokestatic 62, 3) := by decide +kernel
theorem dX0_startEmpty_81 : decode cX0_startEmpty 81 = .ok (.aload_n 0, 1) := by decide +kernel
theorem dX0_startEmpty_82 : decode cX0_startEmpty 82 = .ok (.getfield 34, 3) := by decide +kernel
theorem dX0_startEmpty_85 : decode cX0_startEmpty 85 = .ok (.iconst 0, 1) := by decide +kernel
theorem dX0_startEmpty_86 : decode cX0_startEmpty 86 = .ok (.invokestatic 68, 3) := by decide +kernel
theorem dX0_startEmpty_89 : decode cX0_startEmpty 89 = .ok (.aload_n 0, 1) := by decide +kernel
theorem dX0_startEmpty_90 : decode cX0_startEmpty 90 = .ok (.getfield 37, 3) := by decide +kernel
theorem dX0_startEmpty_93 : decode cX0_startEmpty 93 = .ok (.iconst 0, 1) := by decide +kernel
theorem dX0_startEmpty_94 : decode cX0_startEmpty 94 = .ok (.invokestatic 68, 3) := by decide +kernel
theorem dX0_startEmpty_97 : decode cX0_startEmpty 97 = .ok (.aload_n 0, 1) := by decide +kernel
theorem dX0_startEmpty_98 : decode cX0_startEmpty 98 = .ok (.getfield 40, 3) := by decide +kernel
theorem dX0_startEmpty_101 : decode cX0_startEmpty 101 = .ok (.iconst 0, 1) := by decide +kernel
theorem dX0_startEmpty_102 : decode cX0_startEmpty 102 = .ok (.invokestatic 68, 3) := by decide +kernel
theorem dX0_startEmpty_105 : decode cX0_startEmpty 105 = .ok (.aload_n 0, 1) := by decide +kernel
theorem dX0_startEmpty_106 : decode cX0_startEmpty 106 = .ok (.getfield 43, 3) := by decide +kernel
theorem dX0_startEmpty_109 : decode cX0_startEmpty 109 = .ok (.iconst 0, 1) := by decide +kernel
theorem dX0_startEmpty_110 : decode cX0_startEmpty 110 = .ok (.invokestatic 68, 3) := by decide +kernel
theorem dX0_startEmpty_113 : decode cX0_startEmpty 113 = .ok (.return_, 1) := by decide +kernel
theorem dX0_takeFrom_0 : decode cX0_takeFrom 0 = .ok (.aload_n 0, 1) := by decide +kernel
theorem dX0_takeFrom_1 : decode cX0_takeFrom 1 = .ok (.aload_n 1, 1) := by decide +kernel
theorem dX0_takeFrom_2 : decode cX0_takeFrom 2 = .ok (.getfield 46, 3) := by decide +kernel
theorem dX0_takeFrom_5 : decode cX0_takeFrom 5 = .ok (.putfield 46, 3) := by decide +kernel
theorem dX0_takeFrom_8 : decode cX0_takeFrom 8 = .ok (.aload_n 0, 1) := by decide +kernel
theorem dX0_takeFrom_9 : decode cX0_takeFrom 9 = .ok (.aload_n 1, 1) := by decide +kernel
theorem dX0_takeFrom_10 : decode cX0_takeFrom 10 = .ok (.getfield 50, 3) := by decide +kernel
theorem dX0_takeFrom_13 : decode cX0_takeFrom 13 = .ok (.putfield 50, 3) := by decide +kernel
theorem dX0_takeFrom_16 : decode cX0_takeFrom 16 = .ok (.aload_n 0, 1) := by decide +kernel
theorem dX0_takeFrom_17 : decode cX0_takeFrom 17 = .ok (.aload_n 1, 1) := by decide +kernel
theorem dX0_takeFrom_18 : decode cX0_takeFrom 18 = .ok (.getfield 53, 3) := by decide +kernel
theorem dX0_takeFrom_21 : decode cX0_takeFrom 21 = .ok (.putfield 53, 3) := by decide +kernel
theorem dX0_takeFrom_24 : decode cX0_takeFrom 24 = .ok (.aload_n 0, 1) := by decide +kernel
theorem dX0_takeFrom_25 : decode cX0_takeFrom 25 = .ok (.aload_n 1, 1) := by decide +kernel
theorem dX0_takeFrom_26 : decode cX0_takeFrom 26 = .ok (.getfield 56, 3) := by decide +kernel
theorem dX0_takeFrom_29 : decode cX0_takeFrom 29 = .ok (.putfield 56, 3) := by decide +kernel
theorem dX0_takeFrom_32 : decode cX0_takeFrom 32 = .ok (.aload_n 0, 1) := by decide +kernel
theorem dX0_takeFrom_33 : decode cX0_takeFrom 33 = .ok (.aload_n 1, 1) := by decide +kernel
theorem dX0_takeFrom_34 : decode cX0_takeFrom 34 = .ok (.getfield 59, 3) := by decide +kernel
theorem dX0_takeFrom_37 : decode cX0_takeFrom 37 = .ok (.putfield 59, 3) := by decide +kernel
theorem dX0_takeFrom_40 : decode cX0_takeFrom 40 = .ok (.aload_n 1, 1) := by decide +kernel
theorem dX0_takeFrom_41 : decode cX0_takeFrom 41 = .ok (.getfield 9, 3) := by decide +kernel
theorem dX0_takeFrom_44 : decode cX0_takeFrom 44 = .ok (.iconst 0, 1) := by decide +kernel
theorem dX0_takeFrom_45 : decode cX0_takeFrom 45 = .ok (.aload_n 0, 1) := by decide +kernel
theorem dX0_takeFrom_46 : decode cX0_takeFrom 46 = .ok (.getfield 9, 3) := by decide +kernel
theorem dX0_takeFrom_49 : decode cX0_takeFrom 49 = .ok (.iconst 0, 1) := by decide +kernel
theorem dX0_takeFrom_50 : decode cX0_takeFrom 50 = .ok (.bipush 10, 2) := by decide +kernel
theorem dX0_takeFrom_52 : decode cX0_takeFrom 52 = .ok (.invokestatic 71, 3) := by decide +kernel
theorem dX0_takeFrom_55 : decode cX0_takeFrom 55 = .ok (.aload_n 1, 1) := by decide +kernel
theorem dX0_takeFrom_56 : decode cX0_takeFrom 56 = .ok (.getfield 15, 3) := by decide +kernel
theorem dX0_takeFrom_59 : decode cX0_takeFrom 59 = .ok (.iconst 0, 1) := by decide +kernel
theorem dX0_takeFrom_60 : decode cX0_takeFrom 60 = .ok (.aload_n 0, 1) := by decide +kernel
theorem dX0_takeFrom_61 : decode cX0_takeFrom 61 = .ok (.getfield 15, 3) := by decide +kernel
theorem dX0_takeFrom_64 : decode cX0_takeFrom 64 = .ok (.iconst 0, 1) := by decide +kernel
theorem dX0_takeFrom_65 : decode cX0_takeFrom 65 = .ok (.bipush 10, 2) := by decide +kernel
theorem dX0_takeFrom_67 : decode cX0_takeFrom 67 = .ok (.invokestatic 71, 3) := by decide +kernel
theorem dX0_takeFrom_70 : decode cX0_takeFrom 70 = .ok (.aload_n 1, 1) := by decide +kernel
theorem dX0_takeFrom_71 : decode cX0_takeFrom 71 = .ok (.getfield 19, 3) := by decide +kernel
theorem dX0_takeFrom_74 : decode cX0_takeFrom 74 = .ok (.iconst 0, 1) := by decide +kernel
theorem dX0_takeFrom_75 : decode cX0_takeFrom 75 = .ok (.aload_n 0, 1) := by decide +kernel
theorem dX0_takeFrom_76 : decode cX0_takeFrom 76 = .ok (.getfield 19, 3) := by decide +kernel
theorem dX0_takeFrom_79 : decode cX0_takeFrom 79 = .ok (.iconst 0, 1) := by decide +kernel
theorem dX0_takeFrom_80 : decode cX0_takeFrom 80 = .ok (.bipush 10, 2) := by decide +kernel
theorem dX0_takeFrom_82 : decode cX0_takeFrom 82 = .ok (.invokestatic 71, 3) := by decide +kernel
theorem dX0_takeFrom_85 : decode cX0_takeFrom 85 = .ok (.aload_n 1, 1) := by decide +kernel
theorem dX0_takeFrom_86 : decode cX0_takeFrom 86 = .ok (.getfield 22, 3) := by decide +kernel
theorem dX0_takeFrom_89 : decode cX0_takeFrom 89 = .ok (.iconst 0, 1) := by decide +kernel
theorem dX0_takeFrom_90 : decode cX0_takeFrom 90 = .ok (.aload_n 0, 1) := by decide +kernel
theorem dX0_takeFrom_91 : decode cX0_takeFrom 91 = .ok (.getfield 22, 3) := by decide +kernel
theorem dX0_takeFrom_94 : decode cX0_takeFrom 94 = .ok (.iconst 0, 1) := by decide +kernel
theorem dX0_takeFrom_95 : decode cX0_takeFrom 95 = .ok (.bipush 10, 2) := by decide +kernel
theorem dX0_takeFrom_97 : decode cX0_takeFrom 97 = .ok (.invokestatic 71, 3) := by decide +kernel
theorem dX0_takeFrom_100 : decode cX0_takeFrom 100 = .ok (.aload_n 1, 1) := by decide +kernel
theorem dX0_takeFrom_101 : decode cX0_takeFrom 101 = .ok (.getfield 25, 3) := by decide +kernel
theorem dX0_takeFrom_104 : decode cX0_takeFrom 104 = .ok (.iconst 0, 1) := by decide +kernel
theorem dX0_takeFrom_105 : decode cX0_takeFrom 105 = .ok (.aload_n 0, 1) := by decide +kernel
theorem dX0_takeFrom_106 : decode cX0_takeFrom 106 = .ok (.getfield 25, 3) := by decide +kernel
theorem dX0_takeFrom_109 : decode cX0_takeFrom 109 = .ok (.iconst 0, 1) := by decide +kernel
theorem dX0_takeFrom_110 : decode cX0_takeFrom 110 = .ok (.bipush 10, 2) := by decide +kernel
theorem dX0_takeFrom_112 : decode cX0_takeFrom 112 = .ok (.invokestatic 71, 3) := by decide +kernel
theorem dX0_takeFrom_115 : decode cX0_takeFrom 115 = .ok (.aload_n 1, 1) := by decide +kernel
theorem dX0_takeFrom_116 : decode cX0_takeFrom 116 = .ok (.getfield 28, 3) := by decide +kernel
theorem dX0_takeFrom_119 : decode cX0_takeFrom 119 = .ok (.iconst 0, 1) := by decide +kernel
theorem dX0_takeFrom_120 : decode cX0_takeFrom 120 = .ok (.aload_n 0, 1) := by decide +kernel
theorem dX0_takeFrom_121 : decode cX0_takeFrom 121 = .ok (.getfield 28, 3) := by decide +kernel
theorem dX0_takeFrom_124 : decode cX0_takeFrom 124 = .ok (.iconst 0, 1) := by decide +kernel
theorem dX0_takeFrom_125 : decode cX0_takeFrom 125 = .ok (.bipush 10, 2) := by decide +kernel
theorem dX0_takeFrom_127 : decode cX0_takeFrom 127 = .ok (.invokestatic 71, 3) := by decide +kernel
theorem dX0_takeFrom_130 : decode cX0_takeFrom 130 = .ok (.aload_n 1, 1) := by decide +kernel
theorem dX0_takeFrom_131 : decode cX0_takeFrom 131 = .ok (.getfield 31, 3) := by decide +kernel
theorem dX0_takeFrom_134 : decode cX0_takeFrom 134 = .ok (.iconst 0, 1) := by decide +kernel
theorem dX0_takeFrom_135 : decode cX0_takeFrom 135 = .ok (.aload_n 0, 1) := by decide +kernel
theorem dX0_takeFrom_136 : decode cX0_takeFrom 136 = .ok (.getfield 31, 3) := by decide +kernel
theorem dX0_takeFrom_139 : decode cX0_takeFrom 139 = .ok (.iconst 0, 1) := by decide +kernel
theorem dX0_takeFrom_140 : decode cX0_takeFrom 140 = .ok (.bipush 12, 2) := by decide +kernel
theorem dX0_takeFrom_142 : decode cX0_takeFrom 142 = .ok (.invokestatic 71, 3) := by decide +kernel
theorem dX0_takeFrom_145 : decode cX0_takeFrom 145 = .ok (.aload_n 1, 1) := by decide +kernel
theorem dX0_takeFrom_146 : decode cX0_takeFrom 146 = .ok (.getfield 34, 3) := by decide +kernel
theorem dX0_takeFrom_149 : decode cX0_takeFrom 149 = .ok (.iconst 0, 1) := by decide +kernel
theorem dX0_takeFrom_150 : decode cX0_takeFrom 150 = .ok (.aload_n 0, 1) := by decide +kernel
theorem dX0_takeFrom_151 : decode cX0_takeFrom 151 = .ok (.getfield 34, 3) := by decide +kernel
theorem dX0_takeFrom_154 : decode cX0_takeFrom 154 = .ok (.iconst 0, 1) := by decide +kernel
theorem dX0_takeFrom_155 : decode cX0_takeFrom 155 = .ok (.bipush 12, 2) := by decide +kernel
theorem dX0_takeFrom_157 : decode cX0_takeFrom 157 = .ok (.invokestatic 71, 3) := by decide +kernel
theorem dX0_takeFrom_160 : decode cX0_takeFrom 160 = .ok (.aload_n 1, 1) := by decide +kernel
theorem dX0_takeFrom_161 : decode cX0_takeFrom 161 = .ok (.getfield 37, 3) := by decide +kernel
theorem dX0_takeFrom_164 : decode cX0_takeFrom 164 = .ok (.iconst 0, 1) := by decide +kernel
theorem dX0_takeFrom_165 : decode cX0_takeFrom 165 = .ok (.aload_n 0, 1) := by decide +kernel
theorem dX0_takeFrom_166 : decode cX0_takeFrom 166 = .ok (.getfield 37, 3) := by decide +kernel
theorem dX0_takeFrom_169 : decode cX0_takeFrom 169 = .ok (.iconst 0, 1) := by decide +kernel
theorem dX0_takeFrom_170 : decode cX0_takeFrom 170 = .ok (.bipush 12, 2) := by decide +kernel
theorem dX0_takeFrom_172 : decode cX0_takeFrom 172 = .ok (.invokestatic 71, 3) := by decide +kernel
theorem dX0_takeFrom_175 : decode cX0_takeFrom 175 = .ok (.aload_n 1, 1) := by decide +kernel
theorem dX0_takeFrom_176 : decode cX0_takeFrom 176 = .ok (.getfield 40, 3) := by decide +kernel
theorem dX0_takeFrom_179 : decode cX0_takeFrom 179 = .ok (.iconst 0, 1) := by decide +kernel
theorem dX0_takeFrom_180 : decode cX0_takeFrom 180 = .ok (.aload_n 0, 1) := by decide +kernel
theorem dX0_takeFrom_181 : decode cX0_takeFrom 181 = .ok (.getfield 40, 3) := by decide +kernel
theorem dX0_takeFrom_184 : decode cX0_takeFrom 184 = .ok (.iconst 0, 1) := by decide +kernel
theorem dX0_takeFrom_185 : decode cX0_takeFrom 185 = .ok (.bipush 12, 2) := by decide +kernel
theorem dX0_takeFrom_187 : decode cX0_takeFrom 187 = .ok (.invokestatic 71, 3) := by decide +kernel
theorem dX0_takeFrom_190 : decode cX0_takeFrom 190 = .ok (.aload_n 1, 1) := by decide +kernel
theorem dX0_takeFrom_191 : decode cX0_takeFrom 191 = .ok (.getfield 43, 3) := by decide +kernel
theorem dX0_takeFrom_194 : decode cX0_takeFrom 194 = .ok (.iconst 0, 1) := by decide +kernel
theorem dX0_takeFrom_195 : decode cX0_takeFrom 195 = .ok (.aload_n 0, 1) := by decide +kernel
theorem dX0_takeFrom_196 : decode cX0_takeFrom 196 = .ok (.getfield 43, 3) := by decide +kernel
theorem dX0_takeFrom_199 : decode cX0_takeFrom 199 = .ok (.iconst 0, 1) := by decide +kernel
theorem dX0_takeFrom_200 : decode cX0_takeFrom 200 = .ok (.bipush 120, 2) := by decide +kernel
theorem dX0_takeFrom_202 : decode cX0_takeFrom 202 = .ok (.invokestatic 71, 3) := by decide +kernel
theorem dX0_takeFrom_205 : decode cX0_takeFrom 205 = .ok (.return_, 1) := by decide +kernel
theorem dX0_addFamily_0 : decode cX0_addFamily 0 = .ok (.aload_n 0, 1) := by decide +kernel
theorem dX0_addFamily_1 : decode cX0_addFamily 1 = .ok (.getfield 50, 3) := by decide +kernel
theorem dX0_addFamily_4 : decode cX0_addFamily 4 = .ok (.bipush 10, 2) := by decide +kernel
theorem dX0_addFamily_6 : decode cX0_addFamily 6 = .ok (.if_icmp .lt 4, 3) := by decide +kernel
theorem dX0_addFamily_9 : decode cX0_addFamily 9 = .ok (.return_, 1) := by decide +kernel
theorem dX0_addFamily_10 : decode cX0_addFamily 10 = .ok (.aload_n 0, 1) := by decide +kernel
theorem dX0_addFamily_11 : decode cX0_addFamily 11 = .ok (.getfield 9, 3) := by decide +kernel
theorem dX0_addFamily_14 : decode cX0_addFamily 14 = .ok (.aload_n 0, 1) := by decide +kernel
theorem dX0_addFamily_15 : decode cX0_addFamily 15 = .ok (.getfield 50, 3) := by decide +kernel
theorem dX0_addFamily_18 : decode cX0_addFamily 18 = .ok (.lload_n 1, 1) := by decide +kernel
theorem dX0_addFamily_19 : decode cX0_addFamily 19 = .ok (.lastore, 1) := by decide +kernel
theorem dX0_addFamily_20 : decode cX0_addFamily 20 = .ok (.aload_n 0, 1) := by decide +kernel
theorem dX0_addFamily_21 : decode cX0_addFamily 21 = .ok (.getfield 15, 3) := by decide +kernel
theorem dX0_addFamily_24 : decode cX0_addFamily 24 = .ok (.aload_n 0, 1) := by decide +kernel
theorem dX0_addFamily_25 : decode cX0_addFamily 25 = .ok (.getfield 50, 3) := by decide +kernel
theorem dX0_addFamily_28 : decode cX0_addFamily 28 = .ok (.iload_n 3, 1) := by decide +kernel
theorem dX0_addFamily_29 : decode cX0_addFamily 29 = .ok (.iastore, 1) := by decide +kernel
theorem dX0_addFamily_30 : decode cX0_addFamily 30 = .ok (.aload_n 0, 1) := by decide +kernel
theorem dX0_addFamily_31 : decode cX0_addFamily 31 = .ok (.dup, 1) := by decide +kernel
theorem dX0_addFamily_32 : decode cX0_addFamily 32 = .ok (.getfield 50, 3) := by decide +kernel
theorem dX0_addFamily_35 : decode cX0_addFamily 35 = .ok (.iconst 1, 1) := by decide +kernel
theorem dX0_addFamily_36 : decode cX0_addFamily 36 = .ok (.iadd, 1) := by decide +kernel
theorem dX0_addFamily_37 : decode cX0_addFamily 37 = .ok (.putfield 50, 3) := by decide +kernel
theorem dX0_addFamily_40 : decode cX0_addFamily 40 = .ok (.return_, 1) := by decide +kernel
theorem dX0_addPicture_0 : decode cX0_addPicture 0 = .ok (.aload_n 0, 1) := by decide +kernel
theorem dX0_addPicture_1 : decode cX0_addPicture 1 = .ok (.getfield 53, 3) := by decide +kernel
theorem dX0_addPicture_4 : decode cX0_addPicture 4 = .ok (.bipush 12, 2) := by decide +kernel
theorem dX0_addPicture_6 : decode cX0_addPicture 6 = .ok (.if_icmp .lt 4, 3) := by decide +kernel
theorem dX0_addPicture_9 : decode cX0_addPicture 9 = .ok (.return_, 1) := by decide +kernel
theorem dX0_addPicture_10 : decode cX0_addPicture 10 = .ok (.aload_n 0, 1) := by decide +kernel
theorem dX0_addPicture_11 : decode cX0_addPicture 11 = .ok (.getfield 31, 3) := by decide +kernel
theorem dX0_addPicture_14 : decode cX0_addPicture 14 = .ok (.aload_n 0, 1) := by decide +kernel
theorem dX0_addPicture_15 : decode cX0_addPicture 15 = .ok (.getfield 53, 3) := by decide +kernel
theorem dX0_addPicture_18 : decode cX0_addPicture 18 = .ok (.lload_n 1, 1) := by decide +kernel
theorem dX0_addPicture_19 : decode cX0_addPicture 19 = .ok (.lastore, 1) := by decide +kernel
theorem dX0_addPicture_20 : decode cX0_addPicture 20 = .ok (.aload_n 0, 1) := by decide +kernel
theorem dX0_addPicture_21 : decode cX0_addPicture 21 = .ok (.getfield 34, 3) := by decide +kernel
theorem dX0_addPicture_24 : decode cX0_addPicture 24 = .ok (.aload_n 0, 1) := by decide +kernel
theorem dX0_addPicture_25 : decode cX0_addPicture 25 = .ok (.getfield 53, 3) := by decide +kernel
theorem dX0_addPicture_28 : decode cX0_addPicture 28 = .ok (.iload_n 3, 1) := by decide +kernel
theorem dX0_addPicture_29 : decode cX0_addPicture 29 = .ok (.iastore, 1) := by decide +kernel
theorem dX0_addPicture_30 : decode cX0_addPicture 30 = .ok (.aload_n 0, 1) := by decide +kernel
theorem dX0_addPicture_31 : decode cX0_addPicture 31 = .ok (.dup, 1) := by decide +kernel
theorem dX0_addPicture_32 : decode cX0_addPicture 32 = .ok (.getfield 53, 3) := by decide +kernel
theorem dX0_addPicture_35 : decode cX0_addPicture 35 = .ok (.iconst 1, 1) := by decide +kernel
theorem dX0_addPicture_36 : decode cX0_addPicture 36 = .ok (.iadd, 1) := by decide +kernel
theorem dX0_addPicture_37 : decode cX0_addPicture 37 = .ok (.putfield 53, 3) := by decide +kernel
theorem dX0_addPicture_40 : decode cX0_addPicture 40 = .ok (.return_, 1) := by decide +kernel
theorem dX0_addCopy_0 : decode cX0_addCopy 0 = .ok (.aload_n 0, 1) := by decide +kernel
theorem dX0_addCopy_1 : decode cX0_addCopy 1 = .ok (.getfield 37, 3) := by decide +kernel
theorem dX0_addCopy_4 : decode cX0_addCopy 4 = .ok (.iload_n 1, 1) := by decide +kernel
theorem dX0_addCopy_5 : decode cX0_addCopy 5 = .ok (.dup2, 1) := by decide +kernel
theorem dX0_addCopy_6 : decode cX0_addCopy 6 = .ok (.iaload, 1) := by decide +kernel
theorem dX0_addCopy_7 : decode cX0_addCopy 7 = .ok (.iconst 1, 1) := by decide +kernel
theorem dX0_addCopy_8 : decode cX0_addCopy 8 = .ok (.iload_n 2, 1) := by decide +kernel
theorem dX0_addCopy_9 : decode cX0_addCopy 9 = .ok (.ishl, 1) := by decide +kernel
theorem dX0_addCopy_10 : decode cX0_addCopy 10 = .ok (.ior, 1) := by decide +kernel
theorem dX0_addCopy_11 : decode cX0_addCopy 11 = .ok (.iastore, 1) := by decide +kernel
theorem dX0_addCopy_12 : decode cX0_addCopy 12 = .ok (.aload_n 0, 1) := by decide +kernel
theorem dX0_addCopy_13 : decode cX0_addCopy 13 = .ok (.getfield 43, 3) := by decide +kernel
theorem dX0_addCopy_16 : decode cX0_addCopy 16 = .ok (.iload_n 1, 1) := by decide +kernel
theorem dX0_addCopy_17 : decode cX0_addCopy 17 = .ok (.iload_n 2, 1) := by decide +kernel
theorem dX0_addCopy_18 : decode cX0_addCopy 18 = .ok (.invokestatic 77, 3) := by decide +kernel
theorem dX0_addCopy_21 : decode cX0_addCopy 21 = .ok (.iload_n 3, 1) := by decide +kernel
theorem dX0_addCopy_22 : decode cX0_addCopy 22 = .ok (.iastore, 1) := by decide +kernel
theorem dX0_addCopy_23 : decode cX0_addCopy 23 = .ok (.aload_n 0, 1) := by decide +kernel
theorem dX0_addCopy_24 : decode cX0_addCopy 24 = .ok (.getfield 28, 3) := by decide +kernel
theorem dX0_addCopy_27 : decode cX0_addCopy 27 = .ok (.iload_n 2, 1) := by decide +kernel
theorem dX0_addCopy_28 : decode cX0_addCopy 28 = .ok (.dup2, 1) := by decide +kernel
theorem dX0_addCopy_29 : decode cX0_addCopy 29 = .ok (.iaload, 1) := by decide +kernel
theorem dX0_addCopy_30 : decode cX0_addCopy 30 = .ok (.iconst 1, 1) := by decide +kernel
theorem dX0_addCopy_31 : decode cX0_addCopy 31 = .ok (.iadd, 1) := by decide +kernel
theorem dX0_addCopy_32 : decode cX0_addCopy 32 = .ok (.iastore, 1) := by decide +kernel
theorem dX0_addCopy_33 : decode cX0_addCopy 33 = .ok (.return_, 1) := by decide +kernel
theorem dX0_removeFamily_0 : decode cX0_removeFamily 0 = .ok (.aload_n 0, 1) := by decide +kernel
theorem dX0_removeFamily_1 : decode cX0_removeFamily 1 = .ok (.getfield 50, 3) := by decide +kernel
theorem dX0_removeFamily_4 : decode cX0_removeFamily 4 = .ok (.iload_n 1, 1) := by decide +kernel
theorem dX0_removeFamily_5 : decode cX0_removeFamily 5 = .ok (.isub, 1) := by decide +kernel
theorem dX0_removeFamily_6 : decode cX0_removeFamily 6 = .ok (.iconst 1, 1) := by decide +kernel
theorem dX0_removeFamily_7 : decode cX0_removeFamily 7 = .ok (.isub, 1) := by decide +kernel
theorem dX0_removeFamily_8 : decode cX0_removeFamily 8 = .ok (.istore_n 2, 1) := by decide +kernel
theorem dX0_removeFamily_9 : decode cX0_removeFamily 9 = .ok (.aload_n 0, 1) := by decide +kernel
theorem dX0_removeFamily_10 : decode cX0_removeFamily 10 = .ok (.getfield 50, 3) := by decide +kernel
theorem dX0_removeFamily_13 : decode cX0_removeFamily 13 = .ok (.iconst 1, 1) := by decide +kernel
theorem dX0_removeFamily_14 : decode cX0_removeFamily 14 = .ok (.isub, 1) := by decide +kernel
theorem dX0_removeFamily_15 : decode cX0_removeFamily 15 = .ok (.istore_n 3, 1) := by decide +kernel
theorem dX0_removeFamily_16 : decode cX0_removeFamily 16 = .ok (.iload_n 2, 1) := by decide +kernel
theorem dX0_removeFamily_17 : decode cX0_removeFamily 17 = .ok (.ifCond .lt 7, 3) := by decide +kernel
theorem dX0_removeFamily_20 : decode cX0_removeFamily 20 = .ok (.iload_n 3, 1) := by decide +kernel
theorem dX0_removeFamily_21 : decode cX0_removeFamily 21 = .ok (.ifCond .ge 4, 3) := by decide +kernel
theorem dX0_removeFamily_24 : decode cX0_removeFamily 24 = .ok (.return_, 1) := by decide +kernel
theorem dX0_removeFamily_25 : decode cX0_removeFamily 25 = .ok (.iconst 0, 1) := by decide +kernel
theorem dX0_removeFamily_26 : decode cX0_removeFamily 26 = .ok (.istore 4, 2) := by decide +kernel
theorem dX0_removeFamily_28 : decode cX0_removeFamily 28 = .ok (.iload 4, 2) := by decide +kernel
theorem dX0_removeFamily_30 : decode cX0_removeFamily 30 = .ok (.aload_n 0, 1) := by decide +kernel
theorem dX0_removeFamily_31 : decode cX0_removeFamily 31 = .ok (.getfield 53, 3) := by decide +kernel
theorem dX0_removeFamily_34 : decode cX0_removeFamily 34 = .ok (.if_icmp .ge 83, 3) := by decide +kernel
theorem dX0_removeFamily_37 : decode cX0_removeFamily 37 = .ok (.aload_n 0, 1) := by decide +kernel
theorem dX0_removeFamily_38 : decode cX0_removeFamily 38 = .ok (.getfield 37, 3) := by decide +kernel
theorem dX0_removeFamily_41 : decode cX0_removeFamily 41 = .ok (.iload 4, 2) := by decide +kernel
theorem dX0_removeFamily_43 : decode cX0_removeFamily 43 = .ok (.aload_n 0, 1) := by decide +kernel
theorem dX0_removeFamily_44 : decode cX0_removeFamily 44 = .ok (.getfield 37, 3) := by decide +kernel
theorem dX0_removeFamily_47 : decode cX0_removeFamily 47 = .ok (.iload 4, 2) := by decide +kernel
theorem dX0_removeFamily_49 : decode cX0_removeFamily 49 = .ok (.iaload, 1) := by decide +kernel
theorem dX0_removeFamily_50 : decode cX0_removeFamily 50 = .ok (.iload_n 1, 1) := by decide +kernel
theorem dX0_removeFamily_51 : decode cX0_removeFamily 51 = .ok (.invokestatic 81, 3) := by decide +kernel
theorem dX0_removeFamily_54 : decode cX0_removeFamily 54 = .ok (.iastore, 1) := by decide +kernel
theorem dX0_removeFamily_55 : decode cX0_removeFamily 55 = .ok (.aload_n 0, 1) := by decide +kernel
theorem dX0_removeFamily_56 : decode cX0_removeFamily 56 = .ok (.getfield 40, 3) := by decide +kernel
theorem dX0_removeFamily_59 : decode cX0_removeFamily 59 = .ok (.iload 4, 2) := by decide +kernel
theorem dX0_removeFamily_61 : decode cX0_removeFamily 61 = .ok (.aload_n 0, 1) := by decide +kernel
theorem dX0_removeFamily_62 : decode cX0_removeFamily 62 = .ok (.getfield 40, 3) := by decide +kernel
theorem dX0_removeFamily_65 : decode cX0_removeFamily 65 = .ok (.iload 4, 2) := by decide +kernel
theorem dX0_removeFamily_67 : decode cX0_removeFamily 67 = .ok (.iaload, 1) := by decide +kernel
theorem dX0_removeFamily_68 : decode cX0_removeFamily 68 = .ok (.iload_n 1, 1) := by decide +kernel
theorem dX0_removeFamily_69 : decode cX0_removeFamily 69 = .ok (.invokestatic 81, 3) := by decide +kernel
theorem dX0_removeFamily_72 : decode cX0_removeFamily 72 = .ok (.iastore, 1) := by decide +kernel
theorem dX0_removeFamily_73 : decode cX0_removeFamily 73 = .ok (.aload_n 0, 1) := by decide +kernel
theorem dX0_removeFamily_74 : decode cX0_removeFamily 74 = .ok (.getfield 43, 3) := by decide +kernel
theorem dX0_removeFamily_77 : decode cX0_removeFamily 77 = .ok (.iload 4, 2) := by decide +kernel
theorem dX0_removeFamily_79 : decode cX0_removeFamily 79 = .ok (.iload_n 1, 1) := by decide +kernel
theorem dX0_removeFamily_80 : decode cX0_removeFamily 80 = .ok (.iconst 1, 1) := by decide +kernel
theorem dX0_removeFamily_81 : decode cX0_removeFamily 81 = .ok (.iadd, 1) := by decide +kernel
theorem dX0_removeFamily_82 : decode cX0_removeFamily 82 = .ok (.invokestatic 77, 3) := by decide +kernel
theorem dX0_removeFamily_85 : decode cX0_removeFamily 85 = .ok (.aload_n 0, 1) := by decide +kernel
theorem dX0_removeFamily_86 : decode cX0_removeFamily 86 = .ok (.getfield 43, 3) := by decide +kernel
theorem dX0_removeFamily_89 : decode cX0_removeFamily 89 = .ok (.iload 4, 2) := by decide +kernel
theorem dX0_removeFamily_91 : decode cX0_removeFamily 91 = .ok (.iload_n 1, 1) := by decide +kernel
theorem dX0_removeFamily_92 : decode cX0_removeFamily 92 = .ok (.invokestatic 77, 3) := by decide +kernel
theorem dX0_removeFamily_95 : decode cX0_removeFamily 95 = .ok (.iload_n 2, 1) := by decide +kernel
theorem dX0_removeFamily_96 : decode cX0_removeFamily 96 = .ok (.invokestatic 71, 3) := by decide +kernel
theorem dX0_removeFamily_99 : decode cX0_removeFamily 99 = .ok (.aload_n 0, 1) := by decide +kernel
theorem dX0_removeFamily_100 : decode cX0_removeFamily 100 = .ok (.getfield 43, 3) := by decide +kernel
theorem dX0_removeFamily_103 : decode cX0_removeFamily 103 = .ok (.iload 4, 2) := by decide +kernel
theorem dX0_removeFamily_105 : decode cX0_removeFamily 105 = .ok (.iload_n 3, 1) := by decide +kernel
theorem dX0_removeFamily_106 : decode cX0_removeFamily 106 = .ok (.invokestatic 77, 3) := by decide +kernel
theorem dX0_removeFamily_109 : decode cX0_removeFamily 109 = .ok (.iconst 0, 1) := by decide +kernel
theorem dX0_removeFamily_110 : decode cX0_removeFamily 110 = .ok (.iastore, 1) := by decide +kernel
theorem dX0_removeFamily_111 : decode cX0_removeFamily 111 = .ok (.iinc 4 1, 3) := by decide +kernel
theorem dX0_removeFamily_114 : decode cX0_removeFamily 114 = .ok (.goto (-86), 3) := by decide +kernel
theorem dX0_removeFamily_117 : decode cX0_removeFamily 117 = .ok (.aload_n 0, 1) := by decide +kernel
theorem dX0_removeFamily_118 : decode cX0_removeFamily 118 = .ok (.getfield 9, 3) := by decide +kernel
theorem dX0_removeFamily_121 : decode cX0_removeFamily 121 = .ok (.iload_n 1, 1) := by decide +kernel
theorem dX0_removeFamily_122 : decode cX0_removeFamily 122 = .ok (.iconst 1, 1) := by decide +kernel
theorem dX0_removeFamily_123 : decode cX0_removeFamily 123 = .ok (.iadd, 1) := by decide +kernel
theorem dX0_removeFamily_124 : decode cX0_removeFamily 124 = .ok (.aload_n 0, 1) := by decide +kernel
theorem dX0_removeFamily_125 : decode cX0_removeFamily 125 = .ok (.getfield 9, 3) := by decide +kernel
theorem dX0_removeFamily_128 : decode cX0_removeFamily 128 = .ok (.iload_n 1, 1) := by decide +kernel
theorem dX0_removeFamily_129 : decode cX0_removeFamily 129 = .ok (.iload_n 2, 1) := by decide +kernel
theorem dX0_removeFamily_130 : decode cX0_removeFamily 130 = .ok (.invokestatic 71, 3) := by decide +kernel
theorem dX0_removeFamily_133 : decode cX0_removeFamily 133 = .ok (.aload_n 0, 1) := by decide +kernel
theorem dX0_removeFamily_134 : decode cX0_removeFamily 134 = .ok (.getfield 9, 3) := by decide +kernel
theorem dX0_removeFamily_137 : decode cX0_removeFamily 137 = .ok (.iload_n 3, 1) := by decide +kernel
theorem dX0_removeFamily_138 : decode cX0_removeFamily 138 = .ok (.lconst 0, 1) := by decide +kernel
theorem dX0_removeFamily_139 : decode cX0_removeFamily 139 = .ok (.lastore, 1) := by decide +kernel
theorem dX0_removeFamily_140 : decode cX0_removeFamily 140 = .ok (.aload_n 0, 1) := by decide +kernel
theorem dX0_removeFamily_141 : decode cX0_removeFamily 141 = .ok (.getfield 15, 3) := by decide +kernel
theorem dX0_removeFamily_144 : decode cX0_removeFamily 144 = .ok (.iload_n 1, 1) := by decide +kernel
theorem dX0_removeFamily_145 : decode cX0_removeFamily 145 = .ok (.iload_n 2, 1) := by decide +kernel
theorem dX0_removeFamily_146 : decode cX0_removeFamily 146 = .ok (.invokestatic 84, 3) := by decide +kernel
theorem dX0_removeFamily_149 : decode cX0_removeFamily 149 = .ok (.aload_n 0, 1) := by decide +kernel
theorem dX0_removeFamily_150 : decode cX0_removeFamily 150 = .ok (.getfield 22, 3) := by decide +kernel
theorem dX0_removeFamily_153 : decode cX0_removeFamily 153 = .ok (.iload_n 1, 1) := by decide +kernel
theorem dX0_removeFamily_154 : decode cX0_removeFamily 154 = .ok (.iload_n 2, 1) := by decide +kernel
theorem dX0_removeFamily_155 : decode cX0_removeFamily 155 = .ok (.invokestatic 84, 3) := by decide +kernel
theorem dX0_removeFamily_158 : decode cX0_removeFamily 158 = .ok (.aload_n 0, 1) := by decide +kernel
theorem dX0_removeFamily_159 : decode cX0_removeFamily 159 = .ok (.getfield 25, 3) := by decide +kernel
theorem dX0_removeFamily_162 : decode cX0_removeFamily 162 = .ok (.iload_n 1, 1) := by decide +kernel
theorem dX0_removeFamily_163 : decode cX0_removeFamily 163 = .ok (.iload_n 2, 1) := by decide +kernel
theorem dX0_removeFamily_164 : decode cX0_removeFamily 164 = .ok (.invokestatic 84, 3) := by decide +kernel
theorem dX0_removeFamily_167 : decode cX0_removeFamily 167 = .ok (.aload_n 0, 1) := by decide +kernel
theorem dX0_removeFamily_168 : decode cX0_removeFamily 168 = .ok (.getfield 28, 3) := by decide +kernel
theorem dX0_removeFamily_171 : decode cX0_removeFamily 171 = .ok (.iload_n 1, 1) := by decide +kernel
theorem dX0_removeFamily_172 : decode cX0_removeFamily 172 = .ok (.iload_n 2, 1) := by decide +kernel
theorem dX0_removeFamily_173 : decode cX0_removeFamily 173 = .ok (.invokestatic 84, 3) := by decide +kernel
theorem dX0_removeFamily_176 : decode cX0_removeFamily 176 = .ok (.aload_n 0, 1) := by decide +kernel
theorem dX0_removeFamily_177 : decode cX0_removeFamily 177 = .ok (.getfield 19, 3) := by decide +kernel
theorem dX0_removeFamily_180 : decode cX0_removeFamily 180 = .ok (.iload_n 1, 1) := by decide +kernel
theorem dX0_removeFamily_181 : decode cX0_removeFamily 181 = .ok (.iload_n 2, 1) := by decide +kernel
theorem dX0_removeFamily_182 : decode cX0_removeFamily 182 = .ok (.invokestatic 84, 3) := by decide +kernel
theorem dX0_removeFamily_185 : decode cX0_removeFamily 185 = .ok (.aload_n 0, 1) := by decide +kernel
theorem dX0_removeFamily_186 : decode cX0_removeFamily 186 = .ok (.iload_n 3, 1) := by decide +kernel
theorem dX0_removeFamily_187 : decode cX0_removeFamily 187 = .ok (.putfield 50, 3) := by decide +kernel
theorem dX0_removeFamily_190 : decode cX0_removeFamily 190 = .ok (.iconst 0, 1) := by decide +kernel
theorem dX0_removeFamily_191 : decode cX0_removeFamily 191 = .ok (.istore 4, 2) := by decide +kernel
theorem dX0_removeFamily_193 : decode cX0_removeFamily 193 = .ok (.iload 4, 2) := by decide +kernel
theorem dX0_removeFamily_195 : decode cX0_removeFamily 195 = .ok (.aload_n 0, 1) := by decide +kernel
theorem dX0_removeFamily_196 : decode cX0_removeFamily 196 = .ok (.getfield 50, 3) := by decide +kernel
theorem dX0_removeFamily_199 : decode cX0_removeFamily 199 = .ok (.if_icmp .ge 27, 3) := by decide +kernel
theorem dX0_removeFamily_202 : decode cX0_removeFamily 202 = .ok (.aload_n 0, 1) := by decide +kernel
theorem dX0_removeFamily_203 : decode cX0_removeFamily 203 = .ok (.getfield 19, 3) := by decide +kernel
theorem dX0_removeFamily_206 : decode cX0_removeFamily 206 = .ok (.iload 4, 2) := by decide +kernel
theorem dX0_removeFamily_208 : decode cX0_removeFamily 208 = .ok (.aload_n 0, 1) := by decide +kernel
theorem dX0_removeFamily_209 : decode cX0_removeFamily 209 = .ok (.getfield 19, 3) := by decide +kernel
theorem dX0_removeFamily_212 : decode cX0_removeFamily 212 = .ok (.iload 4, 2) := by decide +kernel
theorem dX0_removeFamily_214 : decode cX0_removeFamily 214 = .ok (.iaload, 1) := by decide +kernel
theorem dX0_removeFamily_215 : decode cX0_removeFamily 215 = .ok (.iload_n 1, 1) := by decide +kernel
theorem dX0_removeFamily_216 : decode cX0_removeFamily 216 = .ok (.invokestatic 81, 3) := by decide +kernel
theorem dX0_removeFamily_219 : decode cX0_removeFamily 219 = .ok (.iastore, 1) := by decide +kernel
theorem dX0_removeFamily_220 : decode cX0_removeFamily 220 = .ok (.iinc 4 1, 3) := by decide +kernel
theorem dX0_removeFamily_223 : decode cX0_removeFamily 223 = .ok (.goto (-30), 3) := by decide +kernel
theorem dX0_removeFamily_226 : decode cX0_removeFamily 226 = .ok (.return_, 1) := by decide +kernel
theorem dX0_dropRow_0 : decode cX0_dropRow 0 = .ok (.aload_n 0, 1) := by decide +kernel
theorem dX0_dropRow_1 : decode cX0_dropRow 1 = .ok (.iload_n 1, 1) := by decide +kernel
theorem dX0_dropRow_2 : decode cX0_dropRow 2 = .ok (.iconst 1, 1) := by decide +kernel
theorem dX0_dropRow_3 : decode cX0_dropRow 3 = .ok (.iadd, 1) := by decide +kernel
theorem dX0_dropRow_4 : decode cX0_dropRow 4 = .ok (.aload_n 0, 1) := by decide +kernel
theorem dX0_dropRow_5 : decode cX0_dropRow 5 = .ok (.iload_n 1, 1) := by decide +kernel
theorem dX0_dropRow_6 : decode cX0_dropRow 6 = .ok (.iload_n 2, 1) := by decide +kernel
theorem dX0_dropRow_7 : decode cX0_dropRow 7 = .ok (.invokestatic 71, 3) := by decide +kernel
theorem dX0_dropRow_10 : decode cX0_dropRow 10 = .ok (.aload_n 0, 1) := by decide +kernel
theorem dX0_dropRow_11 : decode cX0_dropRow 11 = .ok (.iload_n 1, 1) := by decide +kernel
theorem dX0_dropRow_12 : decode cX0_dropRow 12 = .ok (.iload_n 2, 1) := by decide +kernel
theorem dX0_dropRow_13 : decode cX0_dropRow 13 = .ok (.iadd, 1) := by decide +kernel
theorem dX0_dropRow_14 : decode cX0_dropRow 14 = .ok (.iconst 0, 1) := by decide +kernel
theorem dX0_dropRow_15 : decode cX0_dropRow 15 = .ok (.iastore, 1) := by decide +kernel
theorem dX0_dropRow_16 : decode cX0_dropRow 16 = .ok (.return_, 1) := by decide +kernel
theorem dX0_withoutBit_0 : decode cX0_withoutBit 0 = .ok (.iload_n 0, 1) := by decide +kernel
theorem dX0_withoutBit_1 : decode cX0_withoutBit 1 = .ok (.iconst 1, 1) := by decide +kernel
theorem dX0_withoutBit_2 : decode cX0_withoutBit 2 = .ok (.iload_n 1, 1) := by decide +kernel
theorem dX0_withoutBit_3 : decode cX0_withoutBit 3 = .ok (.ishl, 1) := by decide +kernel
theorem dX0_withoutBit_4 : decode cX0_withoutBit 4 = .ok (.iconst 1, 1) := by decide +kernel
theorem dX0_withoutBit_5 : decode cX0_withoutBit 5 = .ok (.isub, 1) := by decide +kernel
theorem dX0_withoutBit_6 : decode cX0_withoutBit 6 = .ok (.iand, 1) := by decide +kernel
theorem dX0_withoutBit_7 : decode cX0_withoutBit 7 = .ok (.istore_n 2, 1) := by decide +kernel
theorem dX0_withoutBit_8 : decode cX0_withoutBit 8 = .ok (.iload_n 0, 1) := by decide +kernel
theorem dX0_withoutBit_9 : decode cX0_withoutBit 9 = .ok (.iload_n 1, 1) := by decide +kernel
theorem dX0_withoutBit_10 : decode cX0_withoutBit 10 = .ok (.iconst 1, 1) := by decide +kernel
theorem dX0_withoutBit_11 : decode cX0_withoutBit 11 = .ok (.iadd, 1) := by decide +kernel
theorem dX0_withoutBit_12 : decode cX0_withoutBit 12 = .ok (.iushr, 1) := by decide +kernel
theorem dX0_withoutBit_13 : decode cX0_withoutBit 13 = .ok (.iload_n 1, 1) := by decide +kernel
theorem dX0_withoutBit_14 : decode cX0_withoutBit 14 = .ok (.ishl, 1) := by decide +kernel
theorem dX0_withoutBit_15 : decode cX0_withoutBit 15 = .ok (.istore_n 3, 1) := by decide +kernel
theorem dX0_withoutBit_16 : decode cX0_withoutBit 16 = .ok (.iload_n 2, 1) := by decide +kernel
theorem dX0_withoutBit_17 : decode cX0_withoutBit 17 = .ok (.iload_n 3, 1) := by decide +kernel
theorem dX0_withoutBit_18 : decode cX0_withoutBit 18 = .ok (.ior, 1) := by decide +kernel
theorem dX0_withoutBit_19 : decode cX0_withoutBit 19 = .ok (.ireturn, 1) := by decide +kernel
theorem dX0_cell_0 : decode cX0_cell 0 = .ok (.iload_n 0, 1) := by decide +kernel
theorem dX0_cell_1 : decode cX0_cell 1 = .ok (.bipush 10, 2) := by decide +kernel
theorem dX0_cell_3 : decode cX0_cell 3 = .ok (.imul, 1) := by decide +kernel
theorem dX0_cell_4 : decode cX0_cell 4 = .ok (.iload_n 1, 1) := by decide +kernel
theorem dX0_cell_5 : decode cX0_cell 5 = .ok (.iadd, 1) := by decide +kernel
theorem dX0_cell_6 : decode cX0_cell 6 = .ok (.ireturn, 1) := by decide +kernel
theorem dX0_allTiles_0 : decode cX0_allTiles 0 = .ok (.iconst 1, 1) := by decide +kernel
theorem dX0_allTiles_1 : decode cX0_allTiles 1 = .ok (.aload_n 0, 1) := by decide +kernel
theorem dX0_allTiles_2 : decode cX0_allTiles 2 = .ok (.getfield 46, 3) := by decide +kernel
theorem dX0_allTiles_5 : decode cX0_allTiles 5 = .ok (.ishl, 1) := by decide +kernel
theorem dX0_allTiles_6 : decode cX0_allTiles 6 = .ok (.iconst 1, 1) := by decide +kernel
theorem dX0_allTiles_7 : decode cX0_allTiles 7 = .ok (.isub, 1) := by decide +kernel
theorem dX0_allTiles_8 : decode cX0_allTiles 8 = .ok (.ireturn, 1) := by decide +kernel
theorem dX0_spoiledTiles_0 : decode cX0_spoiledTiles 0 = .ok (.aload_n 0, 1) := by decide +kernel
theorem dX0_spoiledTiles_1 : decode cX0_spoiledTiles 1 = .ok (.getfield 43, 3) := by decide +kernel
theorem dX0_spoiledTiles_4 : decode cX0_spoiledTiles 4 = .ok (.iload_n 1, 1) := by decide +kernel
theorem dX0_spoiledTiles_5 : decode cX0_spoiledTiles 5 = .ok (.iload_n 2, 1) := by decide +kernel
theorem dX0_spoiledTiles_6 : decode cX0_spoiledTiles 6 = .ok (.invokestatic 77, 3) := by decide +kernel
theorem dX0_spoiledTiles_9 : decode cX0_spoiledTiles 9 = .ok (.iaload, 1) := by decide +kernel
theorem dX0_spoiledTiles_10 : decode cX0_spoiledTiles 10 = .ok (.ireturn, 1) := by decide +kernel
theorem dX0_isHeld_0 : decode cX0_isHeld 0 = .ok (.aload_n 0, 1) := by decide +kernel
theorem dX0_isHeld_1 : decode cX0_isHeld 1 = .ok (.getfield 37, 3) := by decide +kernel
theorem dX0_isHeld_4 : decode cX0_isHeld 4 = .ok (.iload_n 1, 1) := by decide +kernel
theorem dX0_isHeld_5 : decode cX0_isHeld 5 = .ok (.iaload, 1) := by decide +kernel
theorem dX0_isHeld_6 : decode cX0_isHeld 6 = .ok (.iload_n 2, 1) := by decide +kernel
theorem dX0_isHeld_7 : decode cX0_isHeld 7 = .ok (.iushr, 1) := by decide +kernel
theorem dX0_isHeld_8 : decode cX0_isHeld 8 = .ok (.iconst 1, 1) := by decide +kernel
theorem dX0_isHeld_9 : decode cX0_isHeld 9 = .ok (.iand, 1) := by decide +kernel
theorem dX0_isHeld_10 : decode cX0_isHeld 10 = .ok (.ifCond .eq 7, 3) := by decide +kernel
theorem dX0_isHeld_13 : decode cX0_isHeld 13 = .ok (.iconst 1, 1) := by decide +kernel
theorem dX0_isHeld_14 : decode cX0_isHeld 14 = .ok (.goto 4, 3) := by decide +kernel
theorem dX0_isHeld_17 : decode cX0_isHeld 17 = .ok (.iconst 0, 1) := by decide +kernel
theorem dX0_isHeld_18 : decode cX0_isHeld 18 = .ok (.ireturn, 1) := by decide +kernel
theorem dX0_hasCopy_0 : decode cX0_hasCopy 0 = .ok (.aload_n 0, 1) := by decide +kernel
theorem dX0_hasCopy_1 : decode cX0_hasCopy 1 = .ok (.getfield 37, 3) := by decide +kernel
theorem dX0_hasCopy_4 : decode cX0_hasCopy 4 = .ok (.iload_n 1, 1) := by decide +kernel
theorem dX0_hasCopy_5 : decode cX0_hasCopy 5 = .ok (.iaload, 1) := by decide +kernel
theorem dX0_hasCopy_6 : decode cX0_hasCopy 6 = .ok (.aload_n 0, 1) := by decide +kernel
theorem dX0_hasCopy_7 : decode cX0_hasCopy 7 = .ok (.getfield 40, 3) := by decide +kernel
theorem dX0_hasCopy_10 : decode cX0_hasCopy 10 = .ok (.iload_n 1, 1) := by decide +kernel
theorem dX0_hasCopy_11 : decode cX0_hasCopy 11 = .ok (.iaload, 1) := by decide +kernel
theorem dX0_hasCopy_12 : decode cX0_hasCopy 12 = .ok (.ior, 1) := by decide +kernel
theorem dX0_hasCopy_13 : decode cX0_hasCopy 13 = .ok (.iload_n 2, 1) := by decide +kernel
theorem dX0_hasCopy_14 : decode cX0_hasCopy 14 = .ok (.iushr, 1) := by decide +kernel
theorem dX0_hasCopy_15 : decode cX0_hasCopy 15 = .ok (.iconst 1, 1) := by decide +kernel
theorem dX0_hasCopy_16 : decode cX0_hasCopy 16 = .ok (.iand, 1) := by decide +kernel
theorem dX0_hasCopy_17 : decode cX0_hasCopy 17 = .ok (.ifCond .eq 7, 3) := by decide +kernel
theorem dX0_hasCopy_20 : decode cX0_hasCopy 20 = .ok (.iconst 1, 1) := by decide +kernel
theorem dX0_hasCopy_21 : decode cX0_hasCopy 21 = .ok (.goto 4, 3) := by decide +kernel
theorem dX0_hasCopy_24 : decode cX0_hasCopy 24 = .ok (.iconst 0, 1) := by decide +kernel
theorem dX0_hasCopy_25 : decode cX0_hasCopy 25 = .ok (.ireturn, 1) := by decide +kernel
theorem dX0_areNeighbours_0 : decode cX0_areNeighbours 0 = .ok (.aload_n 0, 1) := by decide +kernel
theorem dX0_areNeighbours_1 : decode cX0_areNeighbours 1 = .ok (.getfield 19, 3) := by decide +kernel
theorem dX0_areNeighbours_4 : decode cX0_areNeighbours 4 = .ok (.iload_n 1, 1) := by decide +kernel
theorem dX0_areNeighbours_5 : decode cX0_areNeighbours 5 = .ok (.iaload, 1) := by decide +kernel
theorem dX0_areNeighbours_6 : decode cX0_areNeighbours 6 = .ok (.iload_n 2, 1) := by decide +kernel
theorem dX0_areNeighbours_7 : decode cX0_areNeighbours 7 = .ok (.iushr, 1) := by decide +kernel
theorem dX0_areNeighbours_8 : decode cX0_areNeighbours 8 = .ok (.iconst 1, 1) := by decide +kernel
theorem dX0_areNeighbours_9 : decode cX0_areNeighbours 9 = .ok (.iand, 1) := by decide +kernel
theorem dX0_areNeighbours_10 : decode cX0_areNeighbours 10 = .ok (.ifCond .eq 7, 3) := by decide +kernel
theorem dX0_areNeighbours_13 : decode cX0_areNeighbours 13 = .ok (.iconst 1, 1) := by decide +kernel
theorem dX0_areNeighbours_14 : decode cX0_areNeighbours 14 = .ok (.goto 4, 3) := by decide +kernel
theorem dX0_areNeighbours_17 : decode cX0_areNeighbours 17 = .ok (.iconst 0, 1) := by decide +kernel
theorem dX0_areNeighbours_18 : decode cX0_areNeighbours 18 = .ok (.ireturn, 1) := by decide +kernel
theorem dX0_makeNeighbours_0 : decode cX0_makeNeighbours 0 = .ok (.aload_n 0, 1) := by decide +kernel
theorem dX0_makeNeighbours_1 : decode cX0_makeNeighbours 1 = .ok (.getfield 19, 3) := by decide +kernel
theorem dX0_makeNeighbours_4 : decode cX0_makeNeighbours 4 = .ok (.iload_n 1, 1) := by decide +kernel
theorem dX0_makeNeighbours_5 : decode cX0_makeNeighbours 5 = .ok (.dup2, 1) := by decide +kernel
theorem dX0_makeNeighbours_6 : decode cX0_makeNeighbours 6 = .ok (.iaload, 1) := by decide +kernel
theorem dX0_makeNeighbours_7 : decode cX0_makeNeighbours 7 = .ok (.iconst 1, 1) := by decide +kernel
theorem dX0_makeNeighbours_8 : decode cX0_makeNeighbours 8 = .ok (.iload_n 2, 1) := by decide +kernel
theorem dX0_makeNeighbours_9 : decode cX0_makeNeighbours 9 = .ok (.ishl, 1) := by decide +kernel
theorem dX0_makeNeighbours_10 : decode cX0_makeNeighbours 10 = .ok (.ior, 1) := by decide +kernel
theorem dX0_makeNeighbours_11 : decode cX0_makeNeighbours 11 = .ok (.iastore, 1) := by decide +kernel
theorem dX0_makeNeighbours_12 : decode cX0_makeNeighbours 12 = .ok (.aload_n 0, 1) := by decide +kernel
theorem dX0_makeNeighbours_13 : decode cX0_makeNeighbours 13 = .ok (.getfield 19, 3) := by decide +kernel
theorem dX0_makeNeighbours_16 : decode cX0_makeNeighbours 16 = .ok (.iload_n 2, 1) := by decide +kernel
theorem dX0_makeNeighbours_17 : decode cX0_makeNeighbours 17 = .ok (.dup2, 1) := by decide +kernel
theorem dX0_makeNeighbours_18 : decode cX0_makeNeighbours 18 = .ok (.iaload, 1) := by decide +kernel
theorem dX0_makeNeighbours_19 : decode cX0_makeNeighbours 19 = .ok (.iconst 1, 1) := by decide +kernel
theorem dX0_makeNeighbours_20 : decode cX0_makeNeighbours 20 = .ok (.iload_n 1, 1) := by decide +kernel
theorem dX0_makeNeighbours_21 : decode cX0_makeNeighbours 21 = .ok (.ishl, 1) := by decide +kernel
theorem dX0_makeNeighbours_22 : decode cX0_makeNeighbours 22 = .ok (.ior, 1) := by decide +kernel
theorem dX0_makeNeighbours_23 : decode cX0_makeNeighbours 23 = .ok (.iastore, 1) := by decide +kernel
theorem dX0_makeNeighbours_24 : decode cX0_makeNeighbours 24 = .ok (.return_, 1) := by decide +kernel
theorem dX0_neighbourPairs_0 : decode cX0_neighbourPairs 0 = .ok (.iconst 0, 1) := by decide +kernel
theorem dX0_neighbourPairs_1 : decode cX0_neighbourPairs 1 = .ok (.istore_n 1, 1) := by decide +kernel
theorem dX0_neighbourPairs_2 : decode cX0_neighbourPairs 2 = .ok (.iconst 0, 1) := by decide +kernel
theorem dX0_neighbourPairs_3 : decode cX0_neighbourPairs 3 = .ok (.istore_n 2, 1) := by decide +kernel
theorem dX0_neighbourPairs_4 : decode cX0_neighbourPairs 4 = .ok (.iload_n 2, 1) := by decide +kernel
theorem dX0_neighbourPairs_5 : decode cX0_neighbourPairs 5 = .ok (.aload_n 0, 1) := by decide +kernel
theorem dX0_neighbourPairs_6 : decode cX0_neighbourPairs 6 = .ok (.getfield 50, 3) := by decide +kernel
theorem dX0_neighbourPairs_9 : decode cX0_neighbourPairs 9 = .ok (.if_icmp .ge 21, 3) := by decide +kernel
theorem dX0_neighbourPairs_12 : decode cX0_neighbourPairs 12 = .ok (.iload_n 1, 1) := by decide +kernel
theorem dX0_neighbourPairs_13 : decode cX0_neighbourPairs 13 = .ok (.aload_n 0, 1) := by decide +kernel
theorem dX0_neighbourPairs_14 : decode cX0_neighbourPairs 14 = .ok (.getfield 19, 3) := by decide +kernel
theorem dX0_neighbourPairs_17 : decode cX0_neighbourPairs 17 = .ok (.iload_n 2, 1) := by decide +kernel
theorem dX0_neighbourPairs_18 : decode cX0_neighbourPairs 18 = .ok (.iaload, 1) := by decide +kernel
theorem dX0_neighbourPairs_19 : decode cX0_neighbourPairs 19 = .ok (.invokestatic 88, 3) := by decide +kernel
theorem dX0_neighbourPairs_22 : decode cX0_neighbourPairs 22 = .ok (.iadd, 1) := by decide +kernel
theorem dX0_neighbourPairs_23 : decode cX0_neighbourPairs 23 = .ok (.istore_n 1, 1) := by decide +kernel
theorem dX0_neighbourPairs_24 : decode cX0_neighbourPairs 24 = .ok (.iinc 2 1, 3) := by decide +kernel
theorem dX0_neighbourPairs_27 : decode cX0_neighbourPairs 27 = .ok (.goto (-23), 3) := by decide +kernel
theorem dX0_neighbourPairs_30 : decode cX0_neighbourPairs 30 = .ok (.iload_n 1, 1) := by decide +kernel
theorem dX0_neighbourPairs_31 : decode cX0_neighbourPairs 31 = .ok (.iconst 2, 1) := by decide +kernel
theorem dX0_neighbourPairs_32 : decode cX0_neighbourPairs 32 = .ok (.idiv, 1) := by decide +kernel
theorem dX0_neighbourPairs_33 : decode cX0_neighbourPairs 33 = .ok (.ireturn, 1) := by decide +kernel
theorem dX0_allCopies_0 : decode cX0_allCopies 0 = .ok (.aload_n 0, 1) := by decide +kernel
theorem dX0_allCopies_1 : decode cX0_allCopies 1 = .ok (.invokevirtual 94, 3) := by decide +kernel
theorem dX0_allCopies_4 : decode cX0_allCopies 4 = .ok (.aload_n 0, 1) := by decide +kernel
theorem dX0_allCopies_5 : decode cX0_allCopies 5 = .ok (.invokevirtual 98, 3) := by decide +kernel
theorem dX0_allCopies_8 : decode cX0_allCopies 8 = .ok (.iadd, 1) := by decide +kernel
theorem dX0_allCopies_9 : decode cX0_allCopies 9 = .ok (.ireturn, 1) := by decide +kernel
theorem dX0_heldCopies_0 : decode cX0_heldCopies 0 = .ok (.iconst 0, 1) := by decide +kernel
theorem dX0_heldCopies_1 : decode cX0_heldCopies 1 = .ok (.istore_n 1, 1) := by decide +kernel
theorem dX0_heldCopies_2 : decode cX0_heldCopies 2 = .ok (.iconst 0, 1) := by decide +kernel
theorem dX0_heldCopies_3 : decode cX0_heldCopies 3 = .ok (.istore_n 2, 1) := by decide +kernel
theorem dX0_heldCopies_4 : decode cX0_heldCopies 4 = .ok (.iload_n 2, 1) := by decide +kernel
theorem dX0_heldCopies_5 : decode cX0_heldCopies 5 = .ok (.aload_n 0, 1) := by decide +kernel
theorem dX0_heldCopies_6 : decode cX0_heldCopies 6 = .ok (.getfield 53, 3) := by decide +kernel
theorem dX0_heldCopies_9 : decode cX0_heldCopies 9 = .ok (.if_icmp .ge 21, 3) := by decide +kernel
theorem dX0_heldCopies_12 : decode cX0_heldCopies 12 = .ok (.iload_n 1, 1) := by decide +kernel
theorem dX0_heldCopies_13 : decode cX0_heldCopies 13 = .ok (.aload_n 0, 1) := by decide +kernel
theorem dX0_heldCopies_14 : decode cX0_heldCopies 14 = .ok (.getfield 37, 3) := by decide +kernel
theorem dX0_heldCopies_17 : decode cX0_heldCopies 17 = .ok (.iload_n 2, 1) := by decide +kernel
theorem dX0_heldCopies_18 : decode cX0_heldCopies 18 = .ok (.iaload, 1) := by decide +kernel
theorem dX0_heldCopies_19 : decode cX0_heldCopies 19 = .ok (.invokestatic 88, 3) := by decide +kernel
theorem dX0_heldCopies_22 : decode cX0_heldCopies 22 = .ok (.iadd, 1) := by decide +kernel
theorem dX0_heldCopies_23 : decode cX0_heldCopies 23 = .ok (.istore_n 1, 1) := by decide +kernel
theorem dX0_heldCopies_24 : decode cX0_heldCopies 24 = .ok (.iinc 2 1, 3) := by decide +kernel
theorem dX0_heldCopies_27 : decode cX0_heldCopies 27 = .ok (.goto (-23), 3) := by decide +kernel
theorem dX0_heldCopies_30 : decode cX0_heldCopies 30 = .ok (.iload_n 1, 1) := by decide +kernel
theorem dX0_heldCopies_31 : decode cX0_heldCopies 31 = .ok (.ireturn, 1) := by decide +kernel
theorem dX0_brokenCopies_0 : decode cX0_brokenCopies 0 = .ok (.iconst 0, 1) := by decide +kernel
theorem dX0_brokenCopies_1 : decode cX0_brokenCopies 1 = .ok (.istore_n 1, 1) := by decide +kernel
theorem dX0_brokenCopies_2 : decode cX0_brokenCopies 2 = .ok (.iconst 0, 1) := by decide +kernel
theorem dX0_brokenCopies_3 : decode cX0_brokenCopies 3 = .ok (.istore_n 2, 1) := by decide +kernel
theorem dX0_brokenCopies_4 : decode cX0_brokenCopies 4 = .ok (.iload_n 2, 1) := by decide +kernel
theorem dX0_brokenCopies_5 : decode cX0_brokenCopies 5 = .ok (.aload_n 0, 1) := by decide +kernel
theorem dX0_brokenCopies_6 : decode cX0_brokenCopies 6 = .ok (.getfield 53, 3) := by decide +kernel
theorem dX0_brokenCopies_9 : decode cX0_brokenCopies 9 = .ok (.if_icmp .ge 21, 3) := by decide +kernel
theorem dX0_brokenCopies_12 : decode cX0_brokenCopies 12 = .ok (.iload_n 1, 1) := by decide +kernel
theorem dX0_brokenCopies_13 : decode cX0_brokenCopies 13 = .ok (.aload_n 0, 1) := by decide +kernel
theorem dX0_brokenCopies_14 : decode cX0_brokenCopies 14 = .ok (.getfield 40, 3) := by decide +kernel
theorem dX0_brokenCopies_17 : decode cX0_brokenCopies 17 = .ok (.iload_n 2, 1) := by decide +kernel
theorem dX0_brokenCopies_18 : decode cX0_brokenCopies 18 = .ok (.iaload, 1) := by decide +kernel
theorem dX0_brokenCopies_19 : decode cX0_brokenCopies 19 = .ok (.invokestatic 88, 3) := by decide +kernel
theorem dX0_brokenCopies_22 : decode cX0_brokenCopies 22 = .ok (.iadd, 1) := by decide +kernel
theorem dX0_brokenCopies_23 : decode cX0_brokenCopies 23 = .ok (.istore_n 1, 1) := by decide +kernel
theorem dX0_brokenCopies_24 : decode cX0_brokenCopies 24 = .ok (.iinc 2 1, 3) := by decide +kernel
theorem dX0_brokenCopies_27 : decode cX0_brokenCopies 27 = .ok (.goto (-23), 3) := by decide +kernel
theorem dX0_brokenCopies_30 : decode cX0_brokenCopies 30 = .ok (.iload_n 1, 1) := by decide +kernel
theorem dX0_brokenCopies_31 : decode cX0_brokenCopies 31 = .ok (.ireturn, 1) := by decide +kernel
theorem dX0_unsoundCopies_0 : decode cX0_unsoundCopies 0 = .ok (.iconst 0, 1) := by decide +kernel
theorem dX0_unsoundCopies_1 : decode cX0_unsoundCopies 1 = .ok (.istore_n 1, 1) := by decide +kernel
theorem dX0_unsoundCopies_2 : decode cX0_unsoundCopies 2 = .ok (.iconst 0, 1) := by decide +kernel
theorem dX0_unsoundCopies_3 : decode cX0_unsoundCopies 3 = .ok (.istore_n 2, 1) := by decide +kernel
theorem dX0_unsoundCopies_4 : decode cX0_unsoundCopies 4 = .ok (.iload_n 2, 1) := by decide +kernel
theorem dX0_unsoundCopies_5 : decode cX0_unsoundCopies 5 = .ok (.aload_n 0, 1) := by decide +kernel
theorem dX0_unsoundCopies_6 : decode cX0_unsoundCopies 6 = .ok (.getfield 53, 3) := by decide +kernel
theorem dX0_unsoundCopies_9 : decode cX0_unsoundCopies 9 = .ok (.if_icmp .ge 29, 3) := by decide +kernel
theorem dX0_unsoundCopies_12 : decode cX0_unsoundCopies 12 = .ok (.iload_n 1, 1) := by decide +kernel
theorem dX0_unsoundCopies_13 : decode cX0_unsoundCopies 13 = .ok (.aload_n 0, 1) := by decide +kernel
theorem dX0_unsoundCopies_14 : decode cX0_unsoundCopies 14 = .ok (.getfield 37, 3) := by decide +kernel
theorem dX0_unsoundCopies_17 : decode cX0_unsoundCopies 17 = .ok (.iload_n 2, 1) := by decide +kernel
theorem dX0_unsoundCopies_18 : decode cX0_unsoundCopies 18 = .ok (.iaload, 1) := by decide +kernel
theorem dX0_unsoundCopies_19 : decode cX0_unsoundCopies 19 = .ok (.aload_n 0, 1) := by decide +kernel
theorem dX0_unsoundCopies_20 : decode cX0_unsoundCopies 20 = .ok (.iload_n 2, 1) := by decide +kernel
theorem dX0_unsoundCopies_21 : decode cX0_unsoundCopies 21 = .ok (.invokevirtual 101, 3) := by decide +kernel
theorem dX0_unsoundCopies_24 : decode cX0_unsoundCopies 24 = .ok (.iconst (-1), 1) := by decide +kernel
theorem dX0_unsoundCopies_25 : decode cX0_unsoundCopies 25 = .ok (.ixor, 1) := by decide +kernel
theorem dX0_unsoundCopies_26 : decode cX0_unsoundCopies 26 = .ok (.iand, 1) := by decide +kernel
theorem dX0_unsoundCopies_27 : decode cX0_unsoundCopies 27 = .ok (.invokestatic 88, 3) := by decide +kernel
theorem dX0_unsoundCopies_30 : decode cX0_unsoundCopies 30 = .ok (.iadd, 1) := by decide +kernel
theorem dX0_unsoundCopies_31 : decode cX0_unsoundCopies 31 = .ok (.istore_n 1, 1) := by decide +kernel
theorem dX0_unsoundCopies_32 : decode cX0_unsoundCopies 32 = .ok (.iinc 2 1, 3) := by decide +kernel
theorem dX0_unsoundCopies_35 : decode cX0_unsoundCopies 35 = .ok (.goto (-31), 3) := by decide +kernel
theorem dX0_unsoundCopies_38 : decode cX0_unsoundCopies 38 = .ok (.iload_n 1, 1) := by decide +kernel
theorem dX0_unsoundCopies_39 : decode cX0_unsoundCopies 39 = .ok (.ireturn, 1) := by decide +kernel
theorem dX0_brokenCopiesOf_0 : decode cX0_brokenCopiesOf 0 = .ok (.iconst 0, 1) := by decide +kernel
theorem dX0_brokenCopiesOf_1 : decode cX0_brokenCopiesOf 1 = .ok (.istore_n 2, 1) := by decide +kernel
theorem dX0_brokenCopiesOf_2 : decode cX0_brokenCopiesOf 2 = .ok (.iconst 0, 1) := by decide +kernel
theorem dX0_brokenCopiesOf_3 : decode cX0_brokenCopiesOf 3 = .ok (.istore_n 3, 1) := by decide +kernel
theorem dX0_brokenCopiesOf_4 : decode cX0_brokenCopiesOf 4 = .ok (.iload_n 3, 1) := by decide +kernel
theorem dX0_brokenCopiesOf_5 : decode cX0_brokenCopiesOf 5 = .ok (.aload_n 0, 1) := by decide +kernel
theorem dX0_brokenCopiesOf_6 : decode cX0_brokenCopiesOf 6 = .ok (.getfield 53, 3) := by decide +kernel
theorem dX0_brokenCopiesOf_9 : decode cX0_brokenCopiesOf 9 = .ok (.if_icmp .ge 22, 3) := by decide +kernel
theorem dX0_brokenCopiesOf_12 : decode cX0_brokenCopiesOf 12 = .ok (.iload_n 2, 1) := by decide +kernel
theorem dX0_brokenCopiesOf_13 : decode cX0_brokenCopiesOf 13 = .ok (.aload_n 0, 1) := by decide +kernel
theorem dX0_brokenCopiesOf_14 : decode cX0_brokenCopiesOf 14 = .ok (.getfield 40, 3) := by decide +kernel
theorem dX0_brokenCopiesOf_17 : decode cX0_brokenCopiesOf 17 = .ok (.iload_n 3, 1) := by decide +kernel
theorem dX0_brokenCopiesOf_18 : decode cX0_brokenCopiesOf 18 = .ok (.iaload, 1) := by decide +kernel
theorem dX0_brokenCopiesOf_19 : decode cX0_brokenCopiesOf 19 = .ok (.iload_n 1, 1) := by decide +kernel
theorem dX0_brokenCopiesOf_20 : decode cX0_brokenCopiesOf 20 = .ok (.iushr, 1) := by decide +kernel
theorem dX0_brokenCopiesOf_21 : decode cX0_brokenCopiesOf 21 = .ok (.iconst 1, 1) := by decide +kernel
theorem dX0_brokenCopiesOf_22 : decode cX0_brokenCopiesOf 22 = .ok (.iand, 1) := by decide +kernel
theorem dX0_brokenCopiesOf_23 : decode cX0_brokenCopiesOf 23 = .ok (.iadd, 1) := by decide +kernel
theorem dX0_brokenCopiesOf_24 : decode cX0_brokenCopiesOf 24 = .ok (.istore_n 2, 1) := by decide +kernel
theorem dX0_brokenCopiesOf_25 : decode cX0_brokenCopiesOf 25 = .ok (.iinc 3 1, 3) := by decide +kernel
theorem dX0_brokenCopiesOf_28 : decode cX0_brokenCopiesOf 28 = .ok (.goto (-24), 3) := by decide +kernel
theorem dX0_brokenCopiesOf_31 : decode cX0_brokenCopiesOf 31 = .ok (.iload_n 2, 1) := by decide +kernel
theorem dX0_brokenCopiesOf_32 : decode cX0_brokenCopiesOf 32 = .ok (.ireturn, 1) := by decide +kernel
theorem dX0_soundHolders_0 : decode cX0_soundHolders 0 = .ok (.iconst 0, 1) := by decide +kernel
theorem dX0_soundHolders_1 : decode cX0_soundHolders 1 = .ok (.istore_n 2, 1) := by decide +kernel
theorem dX0_soundHolders_2 : decode cX0_soundHolders 2 = .ok (.iconst 0, 1) := by decide +kernel
theorem dX0_soundHolders_3 : decode cX0_soundHolders 3 = .ok (.istore_n 3, 1) := by decide +kernel
theorem dX0_soundHolders_4 : decode cX0_soundHolders 4 = .ok (.iload_n 3, 1) := by decide +kernel
theorem dX0_soundHolders_5 : decode cX0_soundHolders 5 = .ok (.aload_n 0, 1) := by decide +kernel
theorem dX0_soundHolders_6 : decode cX0_soundHolders 6 = .ok (.getfield 50, 3) := by decide +kernel
theorem dX0_soundHolders_9 : decode cX0_soundHolders 9 = .ok (.if_icmp .ge 33, 3) := by decide +kernel
theorem dX0_soundHolders_12 : decode cX0_soundHolders 12 = .ok (.aload_n 0, 1) := by decide +kernel
theorem dX0_soundHolders_13 : decode cX0_soundHolders 13 = .ok (.iload_n 1, 1) := by decide +kernel
theorem dX0_soundHolders_14 : decode cX0_soundHolders 14 = .ok (.iload_n 3, 1) := by decide +kernel
theorem dX0_soundHolders_15 : decode cX0_soundHolders 15 = .ok (.invokevirtual 104, 3) := by decide +kernel
theorem dX0_soundHolders_18 : decode cX0_soundHolders 18 = .ok (.ifCond .eq 18, 3) := by decide +kernel
theorem dX0_soundHolders_21 : decode cX0_soundHolders 21 = .ok (.aload_n 0, 1) := by decide +kernel
theorem dX0_soundHolders_22 : decode cX0_soundHolders 22 = .ok (.iload_n 1, 1) := by decide +kernel
theorem dX0_soundHolders_23 : decode cX0_soundHolders 23 = .ok (.iload_n 3, 1) := by decide +kernel
theorem dX0_soundHolders_24 : decode cX0_soundHolders 24 = .ok (.invokevirtual 108, 3) := by decide +kernel
theorem dX0_soundHolders_27 : decode cX0_soundHolders 27 = .ok (.ifCond .ne 9, 3) := by decide +kernel
theorem dX0_soundHolders_30 : decode cX0_soundHolders 30 = .ok (.iload_n 2, 1) := by decide +kernel
theorem dX0_soundHolders_31 : decode cX0_soundHolders 31 = .ok (.iconst 1, 1) := by decide +kernel
theorem dX0_soundHolders_32 : decode cX0_soundHolders 32 = .ok (.iload_n 3, 1) := by decide +kernel
theorem dX0_soundHolders_33 : decode cX0_soundHolders 33 = .ok (.ishl, 1) := by decide +kernel
theorem dX0_soundHolders_34 : decode cX0_soundHolders 34 = .ok (.ior, 1) := by decide +kernel
theorem dX0_soundHolders_35 : decode cX0_soundHolders 35 = .ok (.istore_n 2, 1) := by decide +kernel
theorem dX0_soundHolders_36 : decode cX0_soundHolders 36 = .ok (.iinc 3 1, 3) := by decide +kernel
theorem dX0_soundHolders_39 : decode cX0_soundHolders 39 = .ok (.goto (-35), 3) := by decide +kernel
theorem dX0_soundHolders_42 : decode cX0_soundHolders 42 = .ok (.iload_n 2, 1) := by decide +kernel
theorem dX0_soundHolders_43 : decode cX0_soundHolders 43 = .ok (.ireturn, 1) := by decide +kernel
theorem dX0_isInDanger_0 : decode cX0_isInDanger 0 = .ok (.aload_n 0, 1) := by decide +kernel
theorem dX0_isInDanger_1 : decode cX0_isInDanger 1 = .ok (.getfield 37, 3) := by decide +kernel
theorem dX0_isInDanger_4 : decode cX0_isInDanger 4 = .ok (.iload_n 1, 1) := by decide +kernel
theorem dX0_isInDanger_5 : decode cX0_isInDanger 5 = .ok (.iaload, 1) := by decide +kernel
theorem dX0_isInDanger_6 : decode cX0_isInDanger 6 = .ok (.invokestatic 88, 3) := by decide +kernel
theorem dX0_isInDanger_9 : decode cX0_isInDanger 9 = .ok (.aload_n 0, 1) := by decide +kernel
theorem dX0_isInDanger_10 : decode cX0_isInDanger 10 = .ok (.getfield 34, 3) := by decide +kernel
theorem dX0_isInDanger_13 : decode cX0_isInDanger 13 = .ok (.iload_n 1, 1) := by decide +kernel
theorem dX0_isInDanger_14 : decode cX0_isInDanger 14 = .ok (.iaload, 1) := by decide +kernel
theorem dX0_isInDanger_15 : decode cX0_isInDanger 15 = .ok (.if_icmp .ge 7, 3) := by decide +kernel
theorem dX0_isInDanger_18 : decode cX0_isInDanger 18 = .ok (.iconst 1, 1) := by decide +kernel
theorem dX0_isInDanger_19 : decode cX0_isInDanger 19 = .ok (.goto 4, 3) := by decide +kernel
theorem dX0_isInDanger_22 : decode cX0_isInDanger 22 = .ok (.iconst 0, 1) := by decide +kernel
theorem dX0_isInDanger_23 : decode cX0_isInDanger 23 = .ok (.ireturn, 1) := by decide +kernel
theorem dX0_isTrulyInDanger_0 : decode cX0_isTrulyInDanger 0 = .ok (.aload_n 0, 1) := by decide +kernel
theorem dX0_isTrulyInDanger_1 : decode cX0_isTrulyInDanger 1 = .ok (.iload_n 1, 1) := by decide +kernel
theorem dX0_isTrulyInDanger_2 : decode cX0_isTrulyInDanger 2 = .ok (.invokevirtual 101, 3) := by decide +kernel
theorem dX0_isTrulyInDanger_5 : decode cX0_isTrulyInDanger 5 = .ok (.invokestatic 88, 3) := by decide +kernel
theorem dX0_isTrulyInDanger_8 : decode cX0_isTrulyInDanger 8 = .ok (.aload_n 0, 1) := by decide +kernel
theorem dX0_isTrulyInDanger_9 : decode cX0_isTrulyInDanger 9 = .ok (.getfield 34, 3) := by decide +kernel
theorem dX0_isTrulyInDanger_12 : decode cX0_isTrulyInDanger 12 = .ok (.iload_n 1, 1) := by decide +kernel
theorem dX0_isTrulyInDanger_13 : decode cX0_isTrulyInDanger 13 = .ok (.iaload, 1) := by decide +kernel
theorem dX0_isTrulyInDanger_14 : decode cX0_isTrulyInDanger 14 = .ok (.if_icmp .ge 7, 3) := by decide +kernel
theorem dX0_isTrulyInDanger_17 : decode cX0_isTrulyInDanger 17 = .ok (.iconst 1, 1) := by decide +kernel
theorem dX0_isTrulyInDanger_18 : decode cX0_isTrulyInDanger 18 = .ok (.goto 4, 3) := by decide +kernel
theorem dX0_isTrulyInDanger_21 : decode cX0_isTrulyInDanger 21 = .ok (.iconst 0, 1) := by decide +kernel
theorem dX0_isTrulyInDanger_22 : decode cX0_isTrulyInDanger 22 = .ok (.ireturn, 1) := by decide +kernel
theorem dX0_picturesInDanger_0 : decode cX0_picturesInDanger 0 = .ok (.iconst 0, 1) := by decide +kernel
theorem dX0_picturesInDanger_1 : decode cX0_picturesInDanger 1 = .ok (.istore_n 1, 1) := by decide +kernel
theorem dX0_picturesInDanger_2 : decode cX0_picturesInDanger 2 = .ok (.iconst 0, 1) := by decide +kernel
theorem dX0_picturesInDanger_3 : decode cX0_picturesInDanger 3 = .ok (.istore_n 2, 1) := by decide +kernel
theorem dX0_picturesInDanger_4 : decode cX0_picturesInDanger 4 = .ok (.iload_n 2, 1) := by decide +kernel
theorem dX0_picturesInDanger_5 : decode cX0_picturesInDanger 5 = .ok (.aload_n 0, 1) := by decide +kernel
theorem dX0_picturesInDanger_6 : decode cX0_picturesInDanger 6 = .ok (.getfield 53, 3) := by decide +kernel
theorem dX0_picturesInDanger_9 : decode cX0_picturesInDanger 9 = .ok (.if_icmp .ge 20, 3) := by decide +kernel
theorem dX0_picturesInDanger_12 : decode cX0_picturesInDanger 12 = .ok (.aload_n 0, 1) := by decide +kernel
theorem dX0_picturesInDanger_13 : decode cX0_picturesInDanger 13 = .ok (.iload_n 2, 1) := by decide +kernel
theorem dX0_picturesInDanger_14 : decode cX0_picturesInDanger 14 = .ok (.invokevirtual 111, 3) := by decide +kernel
theorem dX0_picturesInDanger_17 : decode cX0_picturesInDanger 17 = .ok (.ifCond .eq 6, 3) := by decide +kernel
theorem dX0_picturesInDanger_20 : decode cX0_picturesInDanger 20 = .ok (.iinc 1 1, 3) := by decide +kernel
theorem dX0_picturesInDanger_23 : decode cX0_picturesInDanger 23 = .ok (.iinc 2 1, 3) := by decide +kernel
theorem dX0_picturesInDanger_26 : decode cX0_picturesInDanger 26 = .ok (.goto (-22), 3) := by decide +kernel
theorem dX0_picturesInDanger_29 : decode cX0_picturesInDanger 29 = .ok (.iload_n 1, 1) := by decide +kernel
theorem dX0_picturesInDanger_30 : decode cX0_picturesInDanger 30 = .ok (.ireturn, 1) := by decide +kernel
theorem dX0_picturesTrulyInDanger_0 : decode cX0_picturesTrulyInDanger 0 = .ok (.iconst 0, 1) := by decide +kernel
theorem dX0_picturesTrulyInDanger_1 : decode cX0_picturesTrulyInDanger 1 = .ok (.istore_n 1, 1) := by decide +kernel
theorem dX0_picturesTrulyInDanger_2 : decode cX0_picturesTrulyInDanger 2 = .ok (.iconst 0, 1) := by decide +kernel
theorem dX0_picturesTrulyInDanger_3 : decode cX0_picturesTrulyInDanger 3 = .ok (.istore_n 2, 1) := by decide +kernel
theorem dX0_picturesTrulyInDanger_4 : decode cX0_picturesTrulyInDanger 4 = .ok (.iload_n 2, 1) := by decide +kernel
theorem dX0_picturesTrulyInDanger_5 : decode cX0_picturesTrulyInDanger 5 = .ok (.aload_n 0, 1) := by decide +kernel
theorem dX0_picturesTrulyInDanger_6 : decode cX0_picturesTrulyInDanger 6 = .ok (.getfield 53, 3) := by decide +kernel
theorem dX0_picturesTrulyInDanger_9 : decode cX0_picturesTrulyInDanger 9 = .ok (.if_icmp .ge 20, 3) := by decide +kernel
theorem dX0_picturesTrulyInDanger_12 : decode cX0_picturesTrulyInDanger 12 = .ok (.aload_n 0, 1) := by decide +kernel
theorem dX0_picturesTrulyInDanger_13 : decode cX0_picturesTrulyInDanger 13 = .ok (.iload_n 2, 1) := by decide +kernel
theorem dX0_picturesTrulyInDanger_14 : decode cX0_picturesTrulyInDanger 14 = .ok (.invokevirtual 115, 3) := by decide +kernel
theorem dX0_picturesTrulyInDanger_17 : decode cX0_picturesTrulyInDanger 17 = .ok (.ifCond .eq 6, 3) := by decide +kernel
theorem dX0_picturesTrulyInDanger_20 : decode cX0_picturesTrulyInDanger 20 = .ok (.iinc 1 1, 3) := by decide +kernel
theorem dX0_picturesTrulyInDanger_23 : decode cX0_picturesTrulyInDanger 23 = .ok (.iinc 2 1, 3) := by decide +kernel
theorem dX0_picturesTrulyInDanger_26 : decode cX0_picturesTrulyInDanger 26 = .ok (.goto (-22), 3) := by decide +kernel
theorem dX0_picturesTrulyInDanger_29 : decode cX0_picturesTrulyInDanger 29 = .ok (.iload_n 1, 1) := by decide +kernel
theorem dX0_picturesTrulyInDanger_30 : decode cX0_picturesTrulyInDanger 30 = .ok (.ireturn, 1) := by decide +kernel
theorem dX0_spoilCopiesOf_0 : decode cX0_spoilCopiesOf 0 = .ok (.iconst 0, 1) := by decide +kernel
theorem dX0_spoilCopiesOf_1 : decode cX0_spoilCopiesOf 1 = .ok (.istore_n 3, 1) := by decide +kernel
theorem dX0_spoilCopiesOf_2 : decode cX0_spoilCopiesOf 2 = .ok (.iload_n 3, 1) := by decide +kernel
theorem dX0_spoilCopiesOf_3 : decode cX0_spoilCopiesOf 3 = .ok (.aload_n 0, 1) := by decide +kernel
theorem dX0_spoilCopiesOf_4 : decode cX0_spoilCopiesOf 4 = .ok (.getfield 53, 3) := by decide +kernel
theorem dX0_spoilCopiesOf_7 : decode cX0_spoilCopiesOf 7 = .ok (.if_icmp .ge 32, 3) := by decide +kernel
theorem dX0_spoilCopiesOf_10 : decode cX0_spoilCopiesOf 10 = .ok (.aload_n 0, 1) := by decide +kernel
theorem dX0_spoilCopiesOf_11 : decode cX0_spoilCopiesOf 11 = .ok (.iload_n 3, 1) := by decide +kernel
theorem dX0_spoilCopiesOf_12 : decode cX0_spoilCopiesOf 12 = .ok (.iload_n 1, 1) := by decide +kernel
theorem dX0_spoilCopiesOf_13 : decode cX0_spoilCopiesOf 13 = .ok (.invokevirtual 118, 3) := by decide +kernel
theorem dX0_spoilCopiesOf_16 : decode cX0_spoilCopiesOf 16 = .ok (.ifCond .eq 17, 3) := by decide +kernel
theorem dX0_spoilCopiesOf_19 : decode cX0_spoilCopiesOf 19 = .ok (.aload_n 0, 1) := by decide +kernel
theorem dX0_spoilCopiesOf_20 : decode cX0_spoilCopiesOf 20 = .ok (.getfield 43, 3) := by decide +kernel
theorem dX0_spoilCopiesOf_23 : decode cX0_spoilCopiesOf 23 = .ok (.iload_n 3, 1) := by decide +kernel
theorem dX0_spoilCopiesOf_24 : decode cX0_spoilCopiesOf 24 = .ok (.iload_n 1, 1) := by decide +kernel
theorem dX0_spoilCopiesOf_25 : decode cX0_spoilCopiesOf 25 = .ok (.invokestatic 77, 3) := by decide +kernel
theorem dX0_spoilCopiesOf_28 : decode cX0_spoilCopiesOf 28 = .ok (.dup2, 1) := by decide +kernel
theorem dX0_spoilCopiesOf_29 : decode cX0_spoilCopiesOf 29 = .ok (.iaload, 1) := by decide +kernel
theorem dX0_spoilCopiesOf_30 : decode cX0_spoilCopiesOf 30 = .ok (.iload_n 2, 1) := by decide +kernel
theorem dX0_spoilCopiesOf_31 : decode cX0_spoilCopiesOf 31 = .ok (.ior, 1) := by decide +kernel
theorem dX0_spoilCopiesOf_32 : decode cX0_spoilCopiesOf 32 = .ok (.iastore, 1) := by decide +kernel
theorem dX0_spoilCopiesOf_33 : decode cX0_spoilCopiesOf 33 = .ok (.iinc 3 1, 3) := by decide +kernel
theorem dX0_spoilCopiesOf_36 : decode cX0_spoilCopiesOf 36 = .ok (.goto (-34), 3) := by decide +kernel
theorem dX0_spoilCopiesOf_39 : decode cX0_spoilCopiesOf 39 = .ok (.return_, 1) := by decide +kernel
theorem dX0_trustOf_0 : decode cX0_trustOf 0 = .ok (.aload_n 0, 1) := by decide +kernel
theorem dX0_trustOf_1 : decode cX0_trustOf 1 = .ok (.getfield 22, 3) := by decide +kernel
theorem dX0_trustOf_4 : decode cX0_trustOf 4 = .ok (.iload_n 1, 1) := by decide +kernel
theorem dX0_trustOf_5 : decode cX0_trustOf 5 = .ok (.iaload, 1) := by decide +kernel
theorem dX0_trustOf_6 : decode cX0_trustOf 6 = .ok (.aload_n 0, 1) := by decide +kernel
theorem dX0_trustOf_7 : decode cX0_trustOf 7 = .ok (.getfield 25, 3) := by decide +kernel
theorem dX0_trustOf_10 : decode cX0_trustOf 10 = .ok (.iload_n 1, 1) := by decide +kernel
theorem dX0_trustOf_11 : decode cX0_trustOf 11 = .ok (.iaload, 1) := by decide +kernel
theorem dX0_trustOf_12 : decode cX0_trustOf 12 = .ok (.iadd, 1) := by decide +kernel
theorem dX0_trustOf_13 : decode cX0_trustOf 13 = .ok (.iconst 2, 1) := by decide +kernel
theorem dX0_trustOf_14 : decode cX0_trustOf 14 = .ok (.iadd, 1) := by decide +kernel
theorem dX0_trustOf_15 : decode cX0_trustOf 15 = .ok (.istore_n 2, 1) := by decide +kernel
theorem dX0_trustOf_16 : decode cX0_trustOf 16 = .ok (.iload_n 2, 1) := by decide +kernel
theorem dX0_trustOf_17 : decode cX0_trustOf 17 = .ok (.ifCond .le 19, 3) := by decide +kernel
theorem dX0_trustOf_20 : decode cX0_trustOf 20 = .ok (.bipush 100, 2) := by decide +kernel
theorem dX0_trustOf_22 : decode cX0_trustOf 22 = .ok (.aload_n 0, 1) := by decide +kernel
theorem dX0_trustOf_23 : decode cX0_trustOf 23 = .ok (.getfield 22, 3) := by decide +kernel
theorem dX0_trustOf_26 : decode cX0_trustOf 26 = .ok (.iload_n 1, 1) := by decide +kernel
theorem dX0_trustOf_27 : decode cX0_trustOf 27 = .ok (.iaload, 1) := by decide +kernel
theorem dX0_trustOf_28 : decode cX0_trustOf 28 = .ok (.iconst 1, 1) := by decide +kernel
theorem dX0_trustOf_29 : decode cX0_trustOf 29 = .ok (.iadd, 1) := by decide +kernel
theorem dX0_trustOf_30 : decode cX0_trustOf 30 = .ok (.imul, 1) := by decide +kernel
theorem dX0_trustOf_31 : decode cX0_trustOf 31 = .ok (.iload_n 2, 1) := by decide +kernel
theorem dX0_trustOf_32 : decode cX0_trustOf 32 = .ok (.idiv, 1) := by decide +kernel
theorem dX0_trustOf_33 : decode cX0_trustOf 33 = .ok (.goto 4, 3) := by decide +kernel
theorem dX0_trustOf_36 : decode cX0_trustOf 36 = .ok (.iconst 0, 1) := by decide +kernel
theorem dX0_trustOf_37 : decode cX0_trustOf 37 = .ok (.ireturn, 1) := by decide +kernel
theorem dX0_answersRight_0 : decode cX0_answersRight 0 = .ok (.aload_n 0, 1) := by decide +kernel
theorem dX0_answersRight_1 : decode cX0_answersRight 1 = .ok (.dup, 1) := by decide +kernel
theorem dX0_answersRight_2 : decode cX0_answersRight 2 = .ok (.getfield 56, 3) := by decide +kernel
theorem dX0_answersRight_5 : decode cX0_answersRight 5 = .ok (.iconst 1, 1) := by decide +kernel
theorem dX0_answersRight_6 : decode cX0_answersRight 6 = .ok (.iadd, 1) := by decide +kernel
theorem dX0_answersRight_7 : decode cX0_answersRight 7 = .ok (.putfield 56, 3) := by decide +kernel
theorem dX0_answersRight_10 : decode cX0_answersRight 10 = .ok (.aload_n 0, 1) := by decide +kernel
theorem dX0_answersRight_11 : decode cX0_answersRight 11 = .ok (.iload_n 1, 1) := by decide +kernel
theorem dX0_answersRight_12 : decode cX0_answersRight 12 = .ok (.iload_n 2, 1) := by decide +kernel
theorem dX0_answersRight_13 : decode cX0_answersRight 13 = .ok (.invokevirtual 108, 3) := by decide +kernel
theorem dX0_answersRight_16 : decode cX0_answersRight 16 = .ok (.iload_n 3, 1) := by decide +kernel
theorem dX0_answersRight_17 : decode cX0_answersRight 17 = .ok (.iushr, 1) := by decide +kernel
theorem dX0_answersRight_18 : decode cX0_answersRight 18 = .ok (.iconst 1, 1) := by decide +kernel
theorem dX0_answersRight_19 : decode cX0_answersRight 19 = .ok (.iand, 1) := by decide +kernel
theorem dX0_answersRight_20 : decode cX0_answersRight 20 = .ok (.ifCond .ne 15, 3) := by decide +kernel
theorem dX0_answersRight_23 : decode cX0_answersRight 23 = .ok (.aload_n 0, 1) := by decide +kernel
theorem dX0_answersRight_24 : decode cX0_answersRight 24 = .ok (.getfield 22, 3) := by decide +kernel
theorem dX0_answersRight_27 : decode cX0_answersRight 27 = .ok (.iload_n 2, 1) := by decide +kernel
theorem dX0_answersRight_28 : decode cX0_answersRight 28 = .ok (.dup2, 1) := by decide +kernel
theorem dX0_answersRight_29 : decode cX0_answersRight 29 = .ok (.iaload, 1) := by decide +kernel
theorem dX0_answersRight_30 : decode cX0_answersRight 30 = .ok (.iconst 1, 1) := by decide +kernel
theorem dX0_answersRight_31 : decode cX0_answersRight 31 = .ok (.iadd, 1) := by decide +kernel
theorem dX0_answersRight_32 : decode cX0_answersRight 32 = .ok (.iastore, 1) := by decide +kernel
theorem dX0_answersRight_33 : decode cX0_answersRight 33 = .ok (.iconst 1, 1) := by decide +kernel
theorem dX0_answersRight_34 : decode cX0_answersRight 34 = .ok (.ireturn, 1) := by decide +kernel
theorem dX0_answersRight_35 : decode cX0_answersRight 35 = .ok (.aload_n 0, 1) := by decide +kernel
theorem dX0_answersRight_36 : decode cX0_answersRight 36 = .ok (.getfield 25, 3) := by decide +kernel
theorem dX0_answersRight_39 : decode cX0_answersRight 39 = .ok (.iload_n 2, 1) := by decide +kernel
theorem dX0_answersRight_40 : decode cX0_answersRight 40 = .ok (.dup2, 1) := by decide +kernel
theorem dX0_answersRight_41 : decode cX0_answersRight 41 = .ok (.iaload, 1) := by decide +kernel
theorem dX0_answersRight_42 : decode cX0_answersRight 42 = .ok (.iconst 1, 1) := by decide +kernel
theorem dX0_answersRight_43 : decode cX0_answersRight 43 = .ok (.iadd, 1) := by decide +kernel
theorem dX0_answersRight_44 : decode cX0_answersRight 44 = .ok (.iastore, 1) := by decide +kernel
theorem dX0_answersRight_45 : decode cX0_answersRight 45 = .ok (.aload_n 0, 1) := by decide +kernel
theorem dX0_answersRight_46 : decode cX0_answersRight 46 = .ok (.getfield 37, 3) := by decide +kernel
theorem dX0_answersRight_49 : decode cX0_answersRight 49 = .ok (.iload_n 1, 1) := by decide +kernel
theorem dX0_answersRight_50 : decode cX0_answersRight 50 = .ok (.dup2, 1) := by decide +kernel
theorem dX0_answersRight_51 : decode cX0_answersRight 51 = .ok (.iaload, 1) := by decide +kernel
theorem dX0_answersRight_52 : decode cX0_answersRight 52 = .ok (.iconst 1, 1) := by decide +kernel
theorem dX0_answersRight_53 : decode cX0_answersRight 53 = .ok (.iload_n 2, 1) := by decide +kernel
theorem dX0_answersRight_54 : decode cX0_answersRight 54 = .ok (.ishl, 1) := by decide +kernel
theorem dX0_answersRight_55 : decode cX0_answersRight 55 = .ok (.iconst (-1), 1) := by decide +kernel
theorem dX0_answersRight_56 : decode cX0_answersRight 56 = .ok (.ixor, 1) := by decide +kernel
theorem dX0_answersRight_57 : decode cX0_answersRight 57 = .ok (.iand, 1) := by decide +kernel
theorem dX0_answersRight_58 : decode cX0_answersRight 58 = .ok (.iastore, 1) := by decide +kernel
theorem dX0_answersRight_59 : decode cX0_answersRight 59 = .ok (.aload_n 0, 1) := by decide +kernel
theorem dX0_answersRight_60 : decode cX0_answersRight 60 = .ok (.getfield 40, 3) := by decide +kernel
theorem dX0_answersRight_63 : decode cX0_answersRight 63 = .ok (.iload_n 1, 1) := by decide +kernel
theorem dX0_answersRight_64 : decode cX0_answersRight 64 = .ok (.dup2, 1) := by decide +kernel
theorem dX0_answersRight_65 : decode cX0_answersRight 65 = .ok (.iaload, 1) := by decide +kernel
theorem dX0_answersRight_66 : decode cX0_answersRight 66 = .ok (.iconst 1, 1) := by decide +kernel
theorem dX0_answersRight_67 : decode cX0_answersRight 67 = .ok (.iload_n 2, 1) := by decide +kernel
theorem dX0_answersRight_68 : decode cX0_answersRight 68 = .ok (.ishl, 1) := by decide +kernel
theorem dX0_answersRight_69 : decode cX0_answersRight 69 = .ok (.ior, 1) := by decide +kernel
theorem dX0_answersRight_70 : decode cX0_answersRight 70 = .ok (.iastore, 1) := by decide +kernel
theorem dX0_answersRight_71 : decode cX0_answersRight 71 = .ok (.iconst 0, 1) := by decide +kernel
theorem dX0_answersRight_72 : decode cX0_answersRight 72 = .ok (.ireturn, 1) := by decide +kernel
theorem dX0_askRound_0 : decode cX0_askRound 0 = .ok (.iload_n 1, 1) := by decide +kernel
theorem dX0_askRound_1 : decode cX0_askRound 1 = .ok (.istore_n 2, 1) := by decide +kernel
theorem dX0_askRound_2 : decode cX0_askRound 2 = .ok (.iconst 0, 1) := by decide +kernel
theorem dX0_askRound_3 : decode cX0_askRound 3 = .ok (.istore_n 3, 1) := by decide +kernel
theorem dX0_askRound_4 : decode cX0_askRound 4 = .ok (.iload_n 3, 1) := by decide +kernel
theorem dX0_askRound_5 : decode cX0_askRound 5 = .ok (.aload_n 0, 1) := by decide +kernel
theorem dX0_askRound_6 : decode cX0_askRound 6 = .ok (.getfield 53, 3) := by decide +kernel
theorem dX0_askRound_9 : decode cX0_askRound 9 = .ok (.if_icmp .ge 62, 3) := by decide +kernel
theorem dX0_askRound_12 : decode cX0_askRound 12 = .ok (.iconst 0, 1) := by decide +kernel
theorem dX0_askRound_13 : decode cX0_askRound 13 = .ok (.istore 4, 2) := by decide +kernel
theorem dX0_askRound_15 : decode cX0_askRound 15 = .ok (.iload 4, 2) := by decide +kernel
theorem dX0_askRound_17 : decode cX0_askRound 17 = .ok (.aload_n 0, 1) := by decide +kernel
theorem dX0_askRound_18 : decode cX0_askRound 18 = .ok (.getfield 50, 3) := by decide +kernel
theorem dX0_askRound_21 : decode cX0_askRound 21 = .ok (.if_icmp .ge 44, 3) := by decide +kernel
theorem dX0_askRound_24 : decode cX0_askRound 24 = .ok (.aload_n 0, 1) := by decide +kernel
theorem dX0_askRound_25 : decode cX0_askRound 25 = .ok (.iload_n 3, 1) := by decide +kernel
theorem dX0_askRound_26 : decode cX0_askRound 26 = .ok (.iload 4, 2) := by decide +kernel
theorem dX0_askRound_28 : decode cX0_askRound 28 = .ok (.invokevirtual 104, 3) := by decide +kernel
theorem dX0_askRound_31 : decode cX0_askRound 31 = .ok (.ifCond .eq 28, 3) := by decide +kernel
theorem dX0_askRound_34 : decode cX0_askRound 34 = .ok (.ldc 121, 2) := by decide +kernel
theorem dX0_askRound_36 : decode cX0_askRound 36 = .ok (.iload_n 2, 1) := by decide +kernel
theorem dX0_askRound_37 : decode cX0_askRound 37 = .ok (.imul, 1) := by decide +kernel
theorem dX0_askRound_38 : decode cX0_askRound 38 = .ok (.sipush 12345, 3) := by decide +kernel
theorem dX0_askRound_41 : decode cX0_askRound 41 = .ok (.iadd, 1) := by decide +kernel
theorem dX0_askRound_42 : decode cX0_askRound 42 = .ok (.ldc 122, 2) := by decide +kernel
theorem dX0_askRound_44 : decode cX0_askRound 44 = .ok (.iand, 1) := by decide +kernel
theorem dX0_askRound_45 : decode cX0_askRound 45 = .ok (.istore_n 2, 1) := by decide +kernel
theorem dX0_askRound_46 : decode cX0_askRound 46 = .ok (.aload_n 0, 1) := by decide +kernel
theorem dX0_askRound_47 : decode cX0_askRound 47 = .ok (.iload_n 3, 1) := by decide +kernel
theorem dX0_askRound_48 : decode cX0_askRound 48 = .ok (.iload 4, 2) := by decide +kernel
theorem dX0_askRound_50 : decode cX0_askRound 50 = .ok (.aload_n 0, 1) := by decide +kernel
theorem dX0_askRound_51 : decode cX0_askRound 51 = .ok (.iload_n 2, 1) := by decide +kernel
theorem dX0_askRound_52 : decode cX0_askRound 52 = .ok (.invokevirtual 123, 3) := by decide +kernel
theorem dX0_askRound_55 : decode cX0_askRound 55 = .ok (.invokevirtual 126, 3) := by decide +kernel
theorem dX0_askRound_58 : decode cX0_askRound 58 = .ok (.pop, 1) := by decide +kernel
theorem dX0_askRound_59 : decode cX0_askRound 59 = .ok (.iinc 4 1, 3) := by decide +kernel
theorem dX0_askRound_62 : decode cX0_askRound 62 = .ok (.goto (-47), 3) := by decide +kernel
theorem dX0_askRound_65 : decode cX0_askRound 65 = .ok (.iinc 3 1, 3) := by decide +kernel
theorem dX0_askRound_68 : decode cX0_askRound 68 = .ok (.goto (-64), 3) := by decide +kernel
theorem dX0_askRound_71 : decode cX0_askRound 71 = .ok (.iload_n 2, 1) := by decide +kernel
theorem dX0_askRound_72 : decode cX0_askRound 72 = .ok (.ireturn, 1) := by decide +kernel
theorem dX0_tileFor_0 : decode cX0_tileFor 0 = .ok (.aload_n 0, 1) := by decide +kernel
theorem dX0_tileFor_1 : decode cX0_tileFor 1 = .ok (.getfield 46, 3) := by decide +kernel
theorem dX0_tileFor_4 : decode cX0_tileFor 4 = .ok (.ifCond .le 15, 3) := by decide +kernel
theorem dX0_tileFor_7 : decode cX0_tileFor 7 = .ok (.iload_n 1, 1) := by decide +kernel
theorem dX0_tileFor_8 : decode cX0_tileFor 8 = .ok (.ldc 130, 2) := by decide +kernel
theorem dX0_tileFor_10 : decode cX0_tileFor 10 = .ok (.idiv, 1) := by decide +kernel
theorem dX0_tileFor_11 : decode cX0_tileFor 11 = .ok (.aload_n 0, 1) := by decide +kernel
theorem dX0_tileFor_12 : decode cX0_tileFor 12 = .ok (.getfield 46, 3) := by decide +kernel
theorem dX0_tileFor_15 : decode cX0_tileFor 15 = .ok (.irem, 1) := by decide +kernel
theorem dX0_tileFor_16 : decode cX0_tileFor 16 = .ok (.goto 4, 3) := by decide +kernel
theorem dX0_tileFor_19 : decode cX0_tileFor 19 = .ok (.iconst 0, 1) := by decide +kernel
theorem dX0_tileFor_20 : decode cX0_tileFor 20 = .ok (.ireturn, 1) := by decide +kernel
theorem dX0_chanceOfRightAnswers_0 : decode cX0_chanceOfRightAnswers 0 = .ok (.aload_n 0, 1) := by decide +kernel
theorem dX0_chanceOfRightAnswers_1 : decode cX0_chanceOfRightAnswers 1 = .ok (.getfield 46, 3) := by decide +kernel
theorem dX0_chanceOfRightAnswers_4 : decode cX0_chanceOfRightAnswers 4 = .ok (.aload_n 0, 1) := by decide +kernel
theorem dX0_chanceOfRightAnswers_5 : decode cX0_chanceOfRightAnswers 5 = .ok (.iload_n 1, 1) := by decide +kernel
theorem dX0_chanceOfRightAnswers_6 : decode cX0_chanceOfRightAnswers 6 = .ok (.iload_n 2, 1) := by decide +kernel
theorem dX0_chanceOfRightAnswers_7 : decode cX0_chanceOfRightAnswers 7 = .ok (.invokevirtual 108, 3) := by decide +kernel
theorem dX0_chanceOfRightAnswers_10 : decode cX0_chanceOfRightAnswers 10 = .ok (.invokestatic 88, 3) := by decide +kernel
theorem dX0_chanceOfRightAnswers_13 : decode cX0_chanceOfRightAnswers 13 = .ok (.isub, 1) := by decide +kernel
theorem dX0_chanceOfRightAnswers_14 : decode cX0_chanceOfRightAnswers 14 = .ok (.istore 4, 2) := by decide +kernel
theorem dX0_chanceOfRightAnswers_16 : decode cX0_chanceOfRightAnswers 16 = .ok (.dconst 1, 1) := by decide +kernel
theorem dX0_chanceOfRightAnswers_17 : decode cX0_chanceOfRightAnswers 17 = .ok (.dstore 5, 2) := by decide +kernel
theorem dX0_chanceOfRightAnswers_19 : decode cX0_chanceOfRightAnswers 19 = .ok (.iconst 0, 1) := by decide +kernel
theorem dX0_chanceOfRightAnswers_20 : decode cX0_chanceOfRightAnswers 20 = .ok (.istore 7, 2) := by decide +kernel
theorem dX0_chanceOfRightAnswers_22 : decode cX0_chanceOfRightAnswers 22 = .ok (.iload 7, 2) := by decide +kernel
theorem dX0_chanceOfRightAnswers_24 : decode cX0_chanceOfRightAnswers 24 = .ok (.iload_n 3, 1) := by decide +kernel
theorem dX0_chanceOfRightAnswers_25 : decode cX0_chanceOfRightAnswers 25 = .ok (.if_icmp .ge 49, 3) := by decide +kernel
theorem dX0_chanceOfRightAnswers_28 : decode cX0_chanceOfRightAnswers 28 = .ok (.iload 4, 2) := by decide +kernel
theorem dX0_chanceOfRightAnswers_30 : decode cX0_chanceOfRightAnswers 30 = .ok (.iload 7, 2) := by decide +kernel
theorem dX0_chanceOfRightAnswers_32 : decode cX0_chanceOfRightAnswers 32 = .ok (.isub, 1) := by decide +kernel
theorem dX0_chanceOfRightAnswers_33 : decode cX0_chanceOfRightAnswers 33 = .ok (.ifCond .le 13, 3) := by decide +kernel
theorem dX0_chanceOfRightAnswers_36 : decode cX0_chanceOfRightAnswers 36 = .ok (.aload_n 0, 1) := by decide +kernel
theorem dX0_chanceOfRightAnswers_37 : decode cX0_chanceOfRightAnswers 37 = .ok (.getfield 46, 3) := by decide +kernel
theorem dX0_chanceOfRightAnswers_40 : decode cX0_chanceOfRightAnswers 40 = .ok (.iload 7, 2) := by decide +kernel
theorem dX0_chanceOfRightAnswers_42 : decode cX0_chanceOfRightAnswers 42 = .ok (.isub, 1) := by decide +kernel
theorem dX0_chanceOfRightAnswers_43 : decode cX0_chanceOfRightAnswers 43 = .ok (.ifCond .gt 5, 3) := by decide +kernel
theorem dX0_chanceOfRightAnswers_46 : decode cX0_chanceOfRightAnswers 46 = .ok (.dconst 0, 1) := by decide +kernel
theorem dX0_chanceOfRightAnswers_47 : decode cX0_chanceOfRightAnswers 47 = .ok (.dreturn, 1) := by decide +kernel
theorem dX0_chanceOfRightAnswers_48 : decode cX0_chanceOfRightAnswers 48 = .ok (.dload 5, 2) := by decide +kernel
theorem dX0_chanceOfRightAnswers_50 : decode cX0_chanceOfRightAnswers 50 = .ok (.iload 4, 2) := by decide +kernel
theorem dX0_chanceOfRightAnswers_52 : decode cX0_chanceOfRightAnswers 52 = .ok (.iload 7, 2) := by decide +kernel
theorem dX0_chanceOfRightAnswers_54 : decode cX0_chanceOfRightAnswers 54 = .ok (.isub, 1) := by decide +kernel
theorem dX0_chanceOfRightAnswers_55 : decode cX0_chanceOfRightAnswers 55 = .ok (.i2d, 1) := by decide +kernel
theorem dX0_chanceOfRightAnswers_56 : decode cX0_chanceOfRightAnswers 56 = .ok (.aload_n 0, 1) := by decide +kernel
theorem dX0_chanceOfRightAnswers_57 : decode cX0_chanceOfRightAnswers 57 = .ok (.getfield 46, 3) := by decide +kernel
theorem dX0_chanceOfRightAnswers_60 : decode cX0_chanceOfRightAnswers 60 = .ok (.iload 7, 2) := by decide +kernel
theorem dX0_chanceOfRightAnswers_62 : decode cX0_chanceOfRightAnswers 62 = .ok (.isub, 1) := by decide +kernel
theorem dX0_chanceOfRightAnswers_63 : decode cX0_chanceOfRightAnswers 63 = .ok (.i2d, 1) := by decide +kernel
theorem dX0_chanceOfRightAnswers_64 : decode cX0_chanceOfRightAnswers 64 = .ok (.ddiv, 1) := by decide +kernel
theorem dX0_chanceOfRightAnswers_65 : decode cX0_chanceOfRightAnswers 65 = .ok (.dmul, 1) := by decide +kernel
theorem dX0_chanceOfRightAnswers_66 : decode cX0_chanceOfRightAnswers 66 = .ok (.dstore 5, 2) := by decide +kernel
theorem dX0_chanceOfRightAnswers_68 : decode cX0_chanceOfRightAnswers 68 = .ok (.iinc 7 1, 3) := by decide +kernel
theorem dX0_chanceOfRightAnswers_71 : decode cX0_chanceOfRightAnswers 71 = .ok (.goto (-49), 3) := by decide +kernel
theorem dX0_chanceOfRightAnswers_74 : decode cX0_chanceOfRightAnswers 74 = .ok (.dload 5, 2) := by decide +kernel
theorem dX0_chanceOfRightAnswers_76 : decode cX0_chanceOfRightAnswers 76 = .ok (.dreturn, 1) := by decide +kernel
theorem dX0_mostSpoiledTile_0 : decode cX0_mostSpoiledTile 0 = .ok (.iconst (-1), 1) := by decide +kernel
theorem dX0_mostSpoiledTile_1 : decode cX0_mostSpoiledTile 1 = .ok (.istore_n 2, 1) := by decide +kernel
theorem dX0_mostSpoiledTile_2 : decode cX0_mostSpoiledTile 2 = .ok (.iconst 0, 1) := by decide +kernel
theorem dX0_mostSpoiledTile_3 : decode cX0_mostSpoiledTile 3 = .ok (.istore_n 3, 1) := by decide +kernel
theorem dX0_mostSpoiledTile_4 : decode cX0_mostSpoiledTile 4 = .ok (.iconst 0, 1) := by decide +kernel
theorem dX0_mostSpoiledTile_5 : decode cX0_mostSpoiledTile 5 = .ok (.istore 4, 2) := by decide +kernel
theorem dX0_mostSpoiledTile_7 : decode cX0_mostSpoiledTile 7 = .ok (.iload 4, 2) := by decide +kernel
theorem dX0_mostSpoiledTile_9 : decode cX0_mostSpoiledTile 9 = .ok (.aload_n 0, 1) := by decide +kernel
theorem dX0_mostSpoiledTile_10 : decode cX0_mostSpoiledTile 10 = .ok (.getfield 46, 3) := by decide +kernel
theorem dX0_mostSpoiledTile_13 : decode cX0_mostSpoiledTile 13 = .ok (.if_icmp .ge 30, 3) := by decide +kernel
theorem dX0_mostSpoiledTile_16 : decode cX0_mostSpoiledTile 16 = .ok (.aload_n 0, 1) := by decide +kernel
theorem dX0_mostSpoiledTile_17 : decode cX0_mostSpoiledTile 17 = .ok (.iload_n 1, 1) := by decide +kernel
theorem dX0_mostSpoiledTile_18 : decode cX0_mostSpoiledTile 18 = .ok (.iload 4, 2) := by decide +kernel
theorem dX0_mostSpoiledTile_20 : decode cX0_mostSpoiledTile 20 = .ok (.invokevirtual 131, 3) := by decide +kernel
theorem dX0_mostSpoiledTile_23 : decode cX0_mostSpoiledTile 23 = .ok (.istore 5, 2) := by decide +kernel
theorem dX0_mostSpoiledTile_25 : decode cX0_mostSpoiledTile 25 = .ok (.iload 5, 2) := by decide +kernel
theorem dX0_mostSpoiledTile_27 : decode cX0_mostSpoiledTile 27 = .ok (.iload_n 3, 1) := by decide +kernel
theorem dX0_mostSpoiledTile_28 : decode cX0_mostSpoiledTile 28 = .ok (.if_icmp .le 9, 3) := by decide +kernel
theorem dX0_mostSpoiledTile_31 : decode cX0_mostSpoiledTile 31 = .ok (.iload 5, 2) := by decide +kernel
theorem dX0_mostSpoiledTile_33 : decode cX0_mostSpoiledTile 33 = .ok (.istore_n 3, 1) := by decide +kernel
theorem dX0_mostSpoiledTile_34 : decode cX0_mostSpoiledTile 34 = .ok (.iload 4, 2) := by decide +kernel
theorem dX0_mostSpoiledTile_36 : decode cX0_mostSpoiledTile 36 = .ok (.istore_n 2, 1) := by decide +kernel
theorem dX0_mostSpoiledTile_37 : decode cX0_mostSpoiledTile 37 = .ok (.iinc 4 1, 3) := by decide +kernel
theorem dX0_mostSpoiledTile_40 : decode cX0_mostSpoiledTile 40 = .ok (.goto (-33), 3) := by decide +kernel
theorem dX0_mostSpoiledTile_43 : decode cX0_mostSpoiledTile 43 = .ok (.iload_n 2, 1) := by decide +kernel
theorem dX0_mostSpoiledTile_44 : decode cX0_mostSpoiledTile 44 = .ok (.ireturn, 1) := by decide +kernel
theorem dX0_heldCopiesSpoiledAt_0 : decode cX0_heldCopiesSpoiledAt 0 = .ok (.iconst 0, 1) := by decide +kernel
theorem dX0_heldCopiesSpoiledAt_1 : decode cX0_heldCopiesSpoiledAt 1 = .ok (.istore_n 3, 1) := by decide +kernel
theorem dX0_heldCopiesSpoiledAt_2 : decode cX0_heldCopiesSpoiledAt 2 = .ok (.iconst 0, 1) := by decide +kernel
theorem dX0_heldCopiesSpoiledAt_3 : decode cX0_heldCopiesSpoiledAt 3 = .ok (.istore 4, 2) := by decide +kernel
theorem dX0_heldCopiesSpoiledAt_5 : decode cX0_heldCopiesSpoiledAt 5 = .ok (.iload 4, 2) := by decide +kernel
theorem dX0_heldCopiesSpoiledAt_7 : decode cX0_heldCopiesSpoiledAt 7 = .ok (.aload_n 0, 1) := by decide +kernel
theorem dX0_heldCopiesSpoiledAt_8 : decode cX0_heldCopiesSpoiledAt 8 = .ok (.getfield 50, 3) := by decide +kernel
theorem dX0_heldCopiesSpoiledAt_11 : decode cX0_heldCopiesSpoiledAt 11 = .ok (.if_icmp .ge 33, 3) := by decide +kernel
theorem dX0_heldCopiesSpoiledAt_14 : decode cX0_heldCopiesSpoiledAt 14 = .ok (.aload_n 0, 1) := by decide +kernel
theorem dX0_heldCopiesSpoiledAt_15 : decode cX0_heldCopiesSpoiledAt 15 = .ok (.iload_n 1, 1) := by decide +kernel
theorem dX0_heldCopiesSpoiledAt_16 : decode cX0_heldCopiesSpoiledAt 16 = .ok (.iload 4, 2) := by decide +kernel
theorem dX0_heldCopiesSpoiledAt_18 : decode cX0_heldCopiesSpoiledAt 18 = .ok (.invokevirtual 104, 3) := by decide +kernel
theorem dX0_heldCopiesSpoiledAt_21 : decode cX0_heldCopiesSpoiledAt 21 = .ok (.ifCond .eq 17, 3) := by decide +kernel
theorem dX0_heldCopiesSpoiledAt_24 : decode cX0_heldCopiesSpoiledAt 24 = .ok (.iload_n 3, 1) := by decide +kernel
theorem dX0_heldCopiesSpoiledAt_25 : decode cX0_heldCopiesSpoiledAt 25 = .ok (.aload_n 0, 1) := by decide +kernel
theorem dX0_heldCopiesSpoiledAt_26 : decode cX0_heldCopiesSpoiledAt 26 = .ok (.iload_n 1, 1) := by decide +kernel
theorem dX0_heldCopiesSpoiledAt_27 : decode cX0_heldCopiesSpoiledAt 27 = .ok (.iload 4, 2) := by decide +kernel
theorem dX0_heldCopiesSpoiledAt_29 : decode cX0_heldCopiesSpoiledAt 29 = .ok (.invokevirtual 108, 3) := by decide +kernel
theorem dX0_heldCopiesSpoiledAt_32 : decode cX0_heldCopiesSpoiledAt 32 = .ok (.iload_n 2, 1) := by decide +kernel
theorem dX0_heldCopiesSpoiledAt_33 : decode cX0_heldCopiesSpoiledAt 33 = .ok (.iushr, 1) := by decide +kernel
theorem dX0_heldCopiesSpoiledAt_34 : decode cX0_heldCopiesSpoiledAt 34 = .ok (.iconst 1, 1) := by decide +kernel
theorem dX0_heldCopiesSpoiledAt_35 : decode cX0_heldCopiesSpoiledAt 35 = .ok (.iand, 1) := by decide +kernel
theorem dX0_heldCopiesSpoiledAt_36 : decode cX0_heldCopiesSpoiledAt 36 = .ok (.iadd, 1) := by decide +kernel
theorem dX0_heldCopiesSpoiledAt_37 : decode cX0_heldCopiesSpoiledAt 37 = .ok (.istore_n 3, 1) := by decide +kernel
theorem dX0_heldCopiesSpoiledAt_38 : decode cX0_heldCopiesSpoiledAt 38 = .ok (.iinc 4 1, 3) := by decide +kernel
theorem dX0_heldCopiesSpoiledAt_41 : decode cX0_heldCopiesSpoiledAt 41 = .ok (.goto (-36), 3) := by decide +kernel
theorem dX0_heldCopiesSpoiledAt_44 : decode cX0_heldCopiesSpoiledAt 44 = .ok (.iload_n 3, 1) := by decide +kernel
theorem dX0_heldCopiesSpoiledAt_45 : decode cX0_heldCopiesSpoiledAt 45 = .ok (.ireturn, 1) := by decide +kernel
theorem dX0_sourcesOf_0 : decode cX0_sourcesOf 0 = .ok (.aload_n 0, 1) := by decide +kernel
theorem dX0_sourcesOf_1 : decode cX0_sourcesOf 1 = .ok (.getfield 19, 3) := by decide +kernel
theorem dX0_sourcesOf_4 : decode cX0_sourcesOf 4 = .ok (.iload_n 2, 1) := by decide +kernel
theorem dX0_sourcesOf_5 : decode cX0_sourcesOf 5 = .ok (.iaload, 1) := by decide +kernel
theorem dX0_sourcesOf_6 : decode cX0_sourcesOf 6 = .ok (.aload_n 0, 1) := by decide +kernel
theorem dX0_sourcesOf_7 : decode cX0_sourcesOf 7 = .ok (.getfield 37, 3) := by decide +kernel
theorem dX0_sourcesOf_10 : decode cX0_sourcesOf 10 = .ok (.iload_n 1, 1) := by decide +kernel
theorem dX0_sourcesOf_11 : decode cX0_sourcesOf 11 = .ok (.iaload, 1) := by decide +kernel
theorem dX0_sourcesOf_12 : decode cX0_sourcesOf 12 = .ok (.iand, 1) := by decide +kernel
theorem dX0_sourcesOf_13 : decode cX0_sourcesOf 13 = .ok (.ireturn, 1) := by decide +kernel
theorem dX0_spoiledInAll_0 : decode cX0_spoiledInAll 0 = .ok (.aload_n 0, 1) := by decide +kernel
theorem dX0_spoiledInAll_1 : decode cX0_spoiledInAll 1 = .ok (.invokevirtual 134, 3) := by decide +kernel
theorem dX0_spoiledInAll_4 : decode cX0_spoiledInAll 4 = .ok (.istore_n 3, 1) := by decide +kernel
theorem dX0_spoiledInAll_5 : decode cX0_spoiledInAll 5 = .ok (.iconst 0, 1) := by decide +kernel
theorem dX0_spoiledInAll_6 : decode cX0_spoiledInAll 6 = .ok (.istore 4, 2) := by decide +kernel
theorem dX0_spoiledInAll_8 : decode cX0_spoiledInAll 8 = .ok (.iload 4, 2) := by decide +kernel
theorem dX0_spoiledInAll_10 : decode cX0_spoiledInAll 10 = .ok (.aload_n 0, 1) := by decide +kernel
theorem dX0_spoiledInAll_11 : decode cX0_spoiledInAll 11 = .ok (.getfield 50, 3) := by decide +kernel
theorem dX0_spoiledInAll_14 : decode cX0_spoiledInAll 14 = .ok (.if_icmp .ge 28, 3) := by decide +kernel
theorem dX0_spoiledInAll_17 : decode cX0_spoiledInAll 17 = .ok (.iload_n 2, 1) := by decide +kernel
theorem dX0_spoiledInAll_18 : decode cX0_spoiledInAll 18 = .ok (.iload 4, 2) := by decide +kernel
theorem dX0_spoiledInAll_20 : decode cX0_spoiledInAll 20 = .ok (.iushr, 1) := by decide +kernel
theorem dX0_spoiledInAll_21 : decode cX0_spoiledInAll 21 = .ok (.iconst 1, 1) := by decide +kernel
theorem dX0_spoiledInAll_22 : decode cX0_spoiledInAll 22 = .ok (.iand, 1) := by decide +kernel
theorem dX0_spoiledInAll_23 : decode cX0_spoiledInAll 23 = .ok (.ifCond .eq 13, 3) := by decide +kernel
theorem dX0_spoiledInAll_26 : decode cX0_spoiledInAll 26 = .ok (.iload_n 3, 1) := by decide +kernel
theorem dX0_spoiledInAll_27 : decode cX0_spoiledInAll 27 = .ok (.aload_n 0, 1) := by decide +kernel
theorem dX0_spoiledInAll_28 : decode cX0_spoiledInAll 28 = .ok (.iload_n 1, 1) := by decide +kernel
theorem dX0_spoiledInAll_29 : decode cX0_spoiledInAll 29 = .ok (.iload 4, 2) := by decide +kernel
theorem dX0_spoiledInAll_31 : decode cX0_spoiledInAll 31 = .ok (.invokevirtual 108, 3) := by decide +kernel
theorem dX0_spoiledInAll_34 : decode cX0_spoiledInAll 34 = .ok (.iand, 1) := by decide +kernel
theorem dX0_spoiledInAll_35 : decode cX0_spoiledInAll 35 = .ok (.istore_n 3, 1) := by decide +kernel
theorem dX0_spoiledInAll_36 : decode cX0_spoiledInAll 36 = .ok (.iinc 4 1, 3) := by decide +kernel
theorem dX0_spoiledInAll_39 : decode cX0_spoiledInAll 39 = .ok (.goto (-31), 3) := by decide +kernel
theorem dX0_spoiledInAll_42 : decode cX0_spoiledInAll 42 = .ok (.iload_n 3, 1) := by decide +kernel
theorem dX0_spoiledInAll_43 : decode cX0_spoiledInAll 43 = .ok (.ireturn, 1) := by decide +kernel
theorem dX0_mendCopy_0 : decode cX0_mendCopy 0 = .ok (.aload_n 0, 1) := by decide +kernel
theorem dX0_mendCopy_1 : decode cX0_mendCopy 1 = .ok (.getfield 43, 3) := by decide +kernel
theorem dX0_mendCopy_4 : decode cX0_mendCopy 4 = .ok (.iload_n 1, 1) := by decide +kernel
theorem dX0_mendCopy_5 : decode cX0_mendCopy 5 = .ok (.iload_n 2, 1) := by decide +kernel
theorem dX0_mendCopy_6 : decode cX0_mendCopy 6 = .ok (.invokestatic 77, 3) := by decide +kernel
theorem dX0_mendCopy_9 : decode cX0_mendCopy 9 = .ok (.aload_n 0, 1) := by decide +kernel
theorem dX0_mendCopy_10 : decode cX0_mendCopy 10 = .ok (.iload_n 1, 1) := by decide +kernel
theorem dX0_mendCopy_11 : decode cX0_mendCopy 11 = .ok (.iload_n 3, 1) := by decide +kernel
theorem dX0_mendCopy_12 : decode cX0_mendCopy 12 = .ok (.invokevirtual 137, 3) := by decide +kernel
theorem dX0_mendCopy_15 : decode cX0_mendCopy 15 = .ok (.iastore, 1) := by decide +kernel
theorem dX0_mendCopy_16 : decode cX0_mendCopy 16 = .ok (.aload_n 0, 1) := by decide +kernel
theorem dX0_mendCopy_17 : decode cX0_mendCopy 17 = .ok (.getfield 37, 3) := by decide +kernel
theorem dX0_mendCopy_20 : decode cX0_mendCopy 20 = .ok (.iload_n 1, 1) := by decide +kernel
theorem dX0_mendCopy_21 : decode cX0_mendCopy 21 = .ok (.dup2, 1) := by decide +kernel
theorem dX0_mendCopy_22 : decode cX0_mendCopy 22 = .ok (.iaload, 1) := by decide +kernel
theorem dX0_mendCopy_23 : decode cX0_mendCopy 23 = .ok (.iconst 1, 1) := by decide +kernel
theorem dX0_mendCopy_24 : decode cX0_mendCopy 24 = .ok (.iload_n 2, 1) := by decide +kernel
theorem dX0_mendCopy_25 : decode cX0_mendCopy 25 = .ok (.ishl, 1) := by decide +kernel
theorem dX0_mendCopy_26 : decode cX0_mendCopy 26 = .ok (.ior, 1) := by decide +kernel
theorem dX0_mendCopy_27 : decode cX0_mendCopy 27 = .ok (.iastore, 1) := by decide +kernel
theorem dX0_mendCopy_28 : decode cX0_mendCopy 28 = .ok (.aload_n 0, 1) := by decide +kernel
theorem dX0_mendCopy_29 : decode cX0_mendCopy 29 = .ok (.getfield 40, 3) := by decide +kernel
theorem dX0_mendCopy_32 : decode cX0_mendCopy 32 = .ok (.iload_n 1, 1) := by decide +kernel
theorem dX0_mendCopy_33 : decode cX0_mendCopy 33 = .ok (.dup2, 1) := by decide +kernel
theorem dX0_mendCopy_34 : decode cX0_mendCopy 34 = .ok (.iaload, 1) := by decide +kernel
theorem dX0_mendCopy_35 : decode cX0_mendCopy 35 = .ok (.iconst 1, 1) := by decide +kernel
theorem dX0_mendCopy_36 : decode cX0_mendCopy 36 = .ok (.iload_n 2, 1) := by decide +kernel
theorem dX0_mendCopy_37 : decode cX0_mendCopy 37 = .ok (.ishl, 1) := by decide +kernel
theorem dX0_mendCopy_38 : decode cX0_mendCopy 38 = .ok (.iconst (-1), 1) := by decide +kernel
theorem dX0_mendCopy_39 : decode cX0_mendCopy 39 = .ok (.ixor, 1) := by decide +kernel
theorem dX0_mendCopy_40 : decode cX0_mendCopy 40 = .ok (.iand, 1) := by decide +kernel
theorem dX0_mendCopy_41 : decode cX0_mendCopy 41 = .ok (.iastore, 1) := by decide +kernel
theorem dX0_mendCopy_42 : decode cX0_mendCopy 42 = .ok (.aload_n 0, 1) := by decide +kernel
theorem dX0_mendCopy_43 : decode cX0_mendCopy 43 = .ok (.dup, 1) := by decide +kernel
theorem dX0_mendCopy_44 : decode cX0_mendCopy 44 = .ok (.getfield 59, 3) := by decide +kernel
theorem dX0_mendCopy_47 : decode cX0_mendCopy 47 = .ok (.iconst 1, 1) := by decide +kernel
theorem dX0_mendCopy_48 : decode cX0_mendCopy 48 = .ok (.iadd, 1) := by decide +kernel
theorem dX0_mendCopy_49 : decode cX0_mendCopy 49 = .ok (.putfield 59, 3) := by decide +kernel
theorem dX0_mendCopy_52 : decode cX0_mendCopy 52 = .ok (.return_, 1) := by decide +kernel
theorem dX0_repairAtOnce_0 : decode cX0_repairAtOnce 0 = .ok (.iconst 0, 1) := by decide +kernel
theorem dX0_repairAtOnce_1 : decode cX0_repairAtOnce 1 = .ok (.istore_n 1, 1) := by decide +kernel
theorem dX0_repairAtOnce_2 : decode cX0_repairAtOnce 2 = .ok (.iconst 0, 1) := by decide +kernel
theorem dX0_repairAtOnce_3 : decode cX0_repairAtOnce 3 = .ok (.istore_n 2, 1) := by decide +kernel
theorem dX0_repairAtOnce_4 : decode cX0_repairAtOnce 4 = .ok (.iload_n 2, 1) := by decide +kernel
theorem dX0_repairAtOnce_5 : decode cX0_repairAtOnce 5 = .ok (.aload_n 0, 1) := by decide +kernel
theorem dX0_repairAtOnce_6 : decode cX0_repairAtOnce 6 = .ok (.getfield 53, 3) := by decide +kernel
theorem dX0_repairAtOnce_9 : decode cX0_repairAtOnce 9 = .ok (.if_icmp .ge 76, 3) := by decide +kernel
theorem dX0_repairAtOnce_12 : decode cX0_repairAtOnce 12 = .ok (.aload_n 0, 1) := by decide +kernel
theorem dX0_repairAtOnce_13 : decode cX0_repairAtOnce 13 = .ok (.getfield 37, 3) := by decide +kernel
theorem dX0_repairAtOnce_16 : decode cX0_repairAtOnce 16 = .ok (.iload_n 2, 1) := by decide +kernel
theorem dX0_repairAtOnce_17 : decode cX0_repairAtOnce 17 = .ok (.iaload, 1) := by decide +kernel
theorem dX0_repairAtOnce_18 : decode cX0_repairAtOnce 18 = .ok (.istore_n 3, 1) := by decide +kernel
theorem dX0_repairAtOnce_19 : decode cX0_repairAtOnce 19 = .ok (.iconst 0, 1) := by decide +kernel
theorem dX0_repairAtOnce_20 : decode cX0_repairAtOnce 20 = .ok (.istore 4, 2) := by decide +kernel
theorem dX0_repairAtOnce_22 : decode cX0_repairAtOnce 22 = .ok (.iload 4, 2) := by decide +kernel
theorem dX0_repairAtOnce_24 : decode cX0_repairAtOnce 24 = .ok (.aload_n 0, 1) := by decide +kernel
theorem dX0_repairAtOnce_25 : decode cX0_repairAtOnce 25 = .ok (.getfield 50, 3) := by decide +kernel
theorem dX0_repairAtOnce_28 : decode cX0_repairAtOnce 28 = .ok (.if_icmp .ge 51, 3) := by decide +kernel
theorem dX0_repairAtOnce_31 : decode cX0_repairAtOnce 31 = .ok (.aload_n 0, 1) := by decide +kernel
theorem dX0_repairAtOnce_32 : decode cX0_repairAtOnce 32 = .ok (.getfield 19, 3) := by decide +kernel
theorem dX0_repairAtOnce_35 : decode cX0_repairAtOnce 35 = .ok (.iload 4, 2) := by decide +kernel
theorem dX0_repairAtOnce_37 : decode cX0_repairAtOnce 37 = .ok (.iaload, 1) := by decide +kernel
theorem dX0_repairAtOnce_38 : decode cX0_repairAtOnce 38 = .ok (.iload_n 3, 1) := by decide +kernel
theorem dX0_repairAtOnce_39 : decode cX0_repairAtOnce 39 = .ok (.iand, 1) := by decide +kernel
theorem dX0_repairAtOnce_40 : decode cX0_repairAtOnce 40 = .ok (.istore 5, 2) := by decide +kernel
theorem dX0_repairAtOnce_42 : decode cX0_repairAtOnce 42 = .ok (.aload_n 0, 1) := by decide +kernel
theorem dX0_repairAtOnce_43 : decode cX0_repairAtOnce 43 = .ok (.getfield 40, 3) := by decide +kernel
theorem dX0_repairAtOnce_46 : decode cX0_repairAtOnce 46 = .ok (.iload_n 2, 1) := by decide +kernel
theorem dX0_repairAtOnce_47 : decode cX0_repairAtOnce 47 = .ok (.iaload, 1) := by decide +kernel
theorem dX0_repairAtOnce_48 : decode cX0_repairAtOnce 48 = .ok (.iload 4, 2) := by decide +kernel
theorem dX0_repairAtOnce_50 : decode cX0_repairAtOnce 50 = .ok (.iushr, 1) := by decide +kernel
theorem dX0_repairAtOnce_51 : decode cX0_repairAtOnce 51 = .ok (.iconst 1, 1) := by decide +kernel
theorem dX0_repairAtOnce_52 : decode cX0_repairAtOnce 52 = .ok (.iand, 1) := by decide +kernel
theorem dX0_repairAtOnce_53 : decode cX0_repairAtOnce 53 = .ok (.ifCond .eq 20, 3) := by decide +kernel
theorem dX0_repairAtOnce_56 : decode cX0_repairAtOnce 56 = .ok (.iload 5, 2) := by decide +kernel
theorem dX0_repairAtOnce_58 : decode cX0_repairAtOnce 58 = .ok (.ifCond .eq 15, 3) := by decide +kernel
theorem dX0_repairAtOnce_61 : decode cX0_repairAtOnce 61 = .ok (.aload_n 0, 1) := by decide +kernel
theorem dX0_repairAtOnce_62 : decode cX0_repairAtOnce 62 = .ok (.iload_n 2, 1) := by decide +kernel
theorem dX0_repairAtOnce_63 : decode cX0_repairAtOnce 63 = .ok (.iload 4, 2) := by decide +kernel
theorem dX0_repairAtOnce_65 : decode cX0_repairAtOnce 65 = .ok (.iload 5, 2) := by decide +kernel
theorem dX0_repairAtOnce_67 : decode cX0_repairAtOnce 67 = .ok (.invokevirtual 140, 3) := by decide +kernel
theorem dX0_repairAtOnce_70 : decode cX0_repairAtOnce 70 = .ok (.iinc 1 1, 3) := by decide +kernel
theorem dX0_repairAtOnce_73 : decode cX0_repairAtOnce 73 = .ok (.iinc 4 1, 3) := by decide +kernel
theorem dX0_repairAtOnce_76 : decode cX0_repairAtOnce 76 = .ok (.goto (-54), 3) := by decide +kernel
theorem dX0_repairAtOnce_79 : decode cX0_repairAtOnce 79 = .ok (.iinc 2 1, 3) := by decide +kernel
theorem dX0_repairAtOnce_82 : decode cX0_repairAtOnce 82 = .ok (.goto (-78), 3) := by decide +kernel
theorem dX0_repairAtOnce_85 : decode cX0_repairAtOnce 85 = .ok (.iload_n 1, 1) := by decide +kernel
theorem dX0_repairAtOnce_86 : decode cX0_repairAtOnce 86 = .ok (.ireturn, 1) := by decide +kernel
theorem dX0_repairInWaves_0 : decode cX0_repairInWaves 0 = .ok (.iconst 0, 1) := by decide +kernel
theorem dX0_repairInWaves_1 : decode cX0_repairInWaves 1 = .ok (.istore_n 1, 1) := by decide +kernel
theorem dX0_repairInWaves_2 : decode cX0_repairInWaves 2 = .ok (.iload_n 1, 1) := by decide +kernel
theorem dX0_repairInWaves_3 : decode cX0_repairInWaves 3 = .ok (.bipush 120, 2) := by decide +kernel
theorem dX0_repairInWaves_5 : decode cX0_repairInWaves 5 = .ok (.if_icmp .ge 18, 3) := by decide +kernel
theorem dX0_repairInWaves_8 : decode cX0_repairInWaves 8 = .ok (.aload_n 0, 1) := by decide +kernel
theorem dX0_repairInWaves_9 : decode cX0_repairInWaves 9 = .ok (.invokevirtual 144, 3) := by decide +kernel
theorem dX0_repairInWaves_12 : decode cX0_repairInWaves 12 = .ok (.ifCond .ne 5, 3) := by decide +kernel
theorem dX0_repairInWaves_15 : decode cX0_repairInWaves 15 = .ok (.iload_n 1, 1) := by decide +kernel
theorem dX0_repairInWaves_16 : decode cX0_repairInWaves 16 = .ok (.ireturn, 1) := by decide +kernel
theorem dX0_repairInWaves_17 : decode cX0_repairInWaves 17 = .ok (.iinc 1 1, 3) := by decide +kernel
theorem dX0_repairInWaves_20 : decode cX0_repairInWaves 20 = .ok (.goto (-18), 3) := by decide +kernel
theorem dX0_repairInWaves_23 : decode cX0_repairInWaves 23 = .ok (.bipush 120, 2) := by decide +kernel
theorem dX0_repairInWaves_25 : decode cX0_repairInWaves 25 = .ok (.ireturn, 1) := by decide +kernel
theorem dX0_neededHolders_0 : decode cX0_neededHolders 0 = .ok (.aload_n 0, 1) := by decide +kernel
theorem dX0_neededHolders_1 : decode cX0_neededHolders 1 = .ok (.getfield 37, 3) := by decide +kernel
theorem dX0_neededHolders_4 : decode cX0_neededHolders 4 = .ok (.iload_n 1, 1) := by decide +kernel
theorem dX0_neededHolders_5 : decode cX0_neededHolders 5 = .ok (.iaload, 1) := by decide +kernel
theorem dX0_neededHolders_6 : decode cX0_neededHolders 6 = .ok (.invokestatic 88, 3) := by decide +kernel
theorem dX0_neededHolders_9 : decode cX0_neededHolders 9 = .ok (.aload_n 0, 1) := by decide +kernel
theorem dX0_neededHolders_10 : decode cX0_neededHolders 10 = .ok (.getfield 34, 3) := by decide +kernel
theorem dX0_neededHolders_13 : decode cX0_neededHolders 13 = .ok (.iload_n 1, 1) := by decide +kernel
theorem dX0_neededHolders_14 : decode cX0_neededHolders 14 = .ok (.iaload, 1) := by decide +kernel
theorem dX0_neededHolders_15 : decode cX0_neededHolders 15 = .ok (.if_icmp .ne 12, 3) := by decide +kernel
theorem dX0_neededHolders_18 : decode cX0_neededHolders 18 = .ok (.aload_n 0, 1) := by decide +kernel
theorem dX0_neededHolders_19 : decode cX0_neededHolders 19 = .ok (.getfield 37, 3) := by decide +kernel
theorem dX0_neededHolders_22 : decode cX0_neededHolders 22 = .ok (.iload_n 1, 1) := by decide +kernel
theorem dX0_neededHolders_23 : decode cX0_neededHolders 23 = .ok (.iaload, 1) := by decide +kernel
theorem dX0_neededHolders_24 : decode cX0_neededHolders 24 = .ok (.goto 4, 3) := by decide +kernel
theorem dX0_neededHolders_27 : decode cX0_neededHolders 27 = .ok (.iconst 0, 1) := by decide +kernel
theorem dX0_neededHolders_28 : decode cX0_neededHolders 28 = .ok (.ireturn, 1) := by decide +kernel
theorem dX0_picturesThatNeed_0 : decode cX0_picturesThatNeed 0 = .ok (.iconst 0, 1) := by decide +kernel
theorem dX0_picturesThatNeed_1 : decode cX0_picturesThatNeed 1 = .ok (.istore_n 2, 1) := by decide +kernel
theorem dX0_picturesThatNeed_2 : decode cX0_picturesThatNeed 2 = .ok (.iconst 0, 1) := by decide +kernel
theorem dX0_picturesThatNeed_3 : decode cX0_picturesThatNeed 3 = .ok (.istore_n 3, 1) := by decide +kernel
theorem dX0_picturesThatNeed_4 : decode cX0_picturesThatNeed 4 = .ok (.iload_n 3, 1) := by decide +kernel
theorem dX0_picturesThatNeed_5 : decode cX0_picturesThatNeed 5 = .ok (.aload_n 0, 1) := by decide +kernel
theorem dX0_picturesThatNeed_6 : decode cX0_picturesThatNeed 6 = .ok (.getfield 53, 3) := by decide +kernel
theorem dX0_picturesThatNeed_9 : decode cX0_picturesThatNeed 9 = .ok (.if_icmp .ge 21, 3) := by decide +kernel
theorem dX0_picturesThatNeed_12 : decode cX0_picturesThatNeed 12 = .ok (.iload_n 2, 1) := by decide +kernel
theorem dX0_picturesThatNeed_13 : decode cX0_picturesThatNeed 13 = .ok (.aload_n 0, 1) := by decide +kernel
theorem dX0_picturesThatNeed_14 : decode cX0_picturesThatNeed 14 = .ok (.iload_n 3, 1) := by decide +kernel
theorem dX0_picturesThatNeed_15 : decode cX0_picturesThatNeed 15 = .ok (.invokevirtual 147, 3) := by decide +kernel
theorem dX0_picturesThatNeed_18 : decode cX0_picturesThatNeed 18 = .ok (.iload_n 1, 1) := by decide +kernel
theorem dX0_picturesThatNeed_19 : decode cX0_picturesThatNeed 19 = .ok (.iushr, 1) := by decide +kernel
theorem dX0_picturesThatNeed_20 : decode cX0_picturesThatNeed 20 = .ok (.iconst 1, 1) := by decide +kernel
theorem dX0_picturesThatNeed_21 : decode cX0_picturesThatNeed 21 = .ok (.iand, 1) := by decide +kernel
theorem dX0_picturesThatNeed_22 : decode cX0_picturesThatNeed 22 = .ok (.iadd, 1) := by decide +kernel
theorem dX0_picturesThatNeed_23 : decode cX0_picturesThatNeed 23 = .ok (.istore_n 2, 1) := by decide +kernel
theorem dX0_picturesThatNeed_24 : decode cX0_picturesThatNeed 24 = .ok (.iinc 3 1, 3) := by decide +kernel
theorem dX0_picturesThatNeed_27 : decode cX0_picturesThatNeed 27 = .ok (.goto (-23), 3) := by decide +kernel
theorem dX0_picturesThatNeed_30 : decode cX0_picturesThatNeed 30 = .ok (.iload_n 2, 1) := by decide +kernel
theorem dX0_picturesThatNeed_31 : decode cX0_picturesThatNeed 31 = .ok (.ireturn, 1) := by decide +kernel
theorem dX0_reachedFrom_0 : decode cX0_reachedFrom 0 = .ok (.iload_n 1, 1) := by decide +kernel
theorem dX0_reachedFrom_1 : decode cX0_reachedFrom 1 = .ok (.istore_n 2, 1) := by decide +kernel
theorem dX0_reachedFrom_2 : decode cX0_reachedFrom 2 = .ok (.iconst 0, 1) := by decide +kernel
theorem dX0_reachedFrom_3 : decode cX0_reachedFrom 3 = .ok (.istore_n 3, 1) := by decide +kernel
theorem dX0_reachedFrom_4 : decode cX0_reachedFrom 4 = .ok (.iload_n 3, 1) := by decide +kernel
theorem dX0_reachedFrom_5 : decode cX0_reachedFrom 5 = .ok (.bipush 10, 2) := by decide +kernel
theorem dX0_reachedFrom_7 : decode cX0_reachedFrom 7 = .ok (.if_icmp .ge 46, 3) := by decide +kernel
theorem dX0_reachedFrom_10 : decode cX0_reachedFrom 10 = .ok (.iconst 0, 1) := by decide +kernel
theorem dX0_reachedFrom_11 : decode cX0_reachedFrom 11 = .ok (.istore 4, 2) := by decide +kernel
theorem dX0_reachedFrom_13 : decode cX0_reachedFrom 13 = .ok (.iload 4, 2) := by decide +kernel
theorem dX0_reachedFrom_15 : decode cX0_reachedFrom 15 = .ok (.aload_n 0, 1) := by decide +kernel
theorem dX0_reachedFrom_16 : decode cX0_reachedFrom 16 = .ok (.getfield 50, 3) := by decide +kernel
theorem dX0_reachedFrom_19 : decode cX0_reachedFrom 19 = .ok (.if_icmp .ge 28, 3) := by decide +kernel
theorem dX0_reachedFrom_22 : decode cX0_reachedFrom 22 = .ok (.iload_n 2, 1) := by decide +kernel
theorem dX0_reachedFrom_23 : decode cX0_reachedFrom 23 = .ok (.iload 4, 2) := by decide +kernel
theorem dX0_reachedFrom_25 : decode cX0_reachedFrom 25 = .ok (.iushr, 1) := by decide +kernel
theorem dX0_reachedFrom_26 : decode cX0_reachedFrom 26 = .ok (.iconst 1, 1) := by decide +kernel
theorem dX0_reachedFrom_27 : decode cX0_reachedFrom 27 = .ok (.iand, 1) := by decide +kernel
theorem dX0_reachedFrom_28 : decode cX0_reachedFrom 28 = .ok (.ifCond .eq 13, 3) := by decide +kernel
theorem dX0_reachedFrom_31 : decode cX0_reachedFrom 31 = .ok (.iload_n 2, 1) := by decide +kernel
theorem dX0_reachedFrom_32 : decode cX0_reachedFrom 32 = .ok (.aload_n 0, 1) := by decide +kernel
theorem dX0_reachedFrom_33 : decode cX0_reachedFrom 33 = .ok (.getfield 19, 3) := by decide +kernel
theorem dX0_reachedFrom_36 : decode cX0_reachedFrom 36 = .ok (.iload 4, 2) := by decide +kernel
theorem dX0_reachedFrom_38 : decode cX0_reachedFrom 38 = .ok (.iaload, 1) := by decide +kernel
theorem dX0_reachedFrom_39 : decode cX0_reachedFrom 39 = .ok (.ior, 1) := by decide +kernel
theorem dX0_reachedFrom_40 : decode cX0_reachedFrom 40 = .ok (.istore_n 2, 1) := by decide +kernel
theorem dX0_reachedFrom_41 : decode cX0_reachedFrom 41 = .ok (.iinc 4 1, 3) := by decide +kernel
theorem dX0_reachedFrom_44 : decode cX0_reachedFrom 44 = .ok (.goto (-31), 3) := by decide +kernel
theorem dX0_reachedFrom_47 : decode cX0_reachedFrom 47 = .ok (.iinc 3 1, 3) := by decide +kernel
theorem dX0_reachedFrom_50 : decode cX0_reachedFrom 50 = .ok (.goto (-46), 3) := by decide +kernel
theorem dX0_reachedFrom_53 : decode cX0_reachedFrom 53 = .ok (.iload_n 2, 1) := by decide +kernel
theorem dX0_reachedFrom_54 : decode cX0_reachedFrom 54 = .ok (.ireturn, 1) := by decide +kernel
theorem dX0_makeCopies_0 : decode cX0_makeCopies 0 = .ok (.iconst 0, 1) := by decide +kernel
theorem dX0_makeCopies_1 : decode cX0_makeCopies 1 = .ok (.istore_n 1, 1) := by decide +kernel
theorem dX0_makeCopies_2 : decode cX0_makeCopies 2 = .ok (.iconst 0, 1) := by decide +kernel
theorem dX0_makeCopies_3 : decode cX0_makeCopies 3 = .ok (.istore_n 2, 1) := by decide +kernel
theorem dX0_makeCopies_4 : decode cX0_makeCopies 4 = .ok (.iload_n 2, 1) := by decide +kernel
theorem dX0_makeCopies_5 : decode cX0_makeCopies 5 = .ok (.aload_n 0, 1) := by decide +kernel
theorem dX0_makeCopies_6 : decode cX0_makeCopies 6 = .ok (.getfield 53, 3) := by decide +kernel
theorem dX0_makeCopies_9 : decode cX0_makeCopies 9 = .ok (.if_icmp .ge 69, 3) := by decide +kernel
theorem dX0_makeCopies_12 : decode cX0_makeCopies 12 = .ok (.iconst 0, 1) := by decide +kernel
theorem dX0_makeCopies_13 : decode cX0_makeCopies 13 = .ok (.istore_n 3, 1) := by decide +kernel
theorem dX0_makeCopies_14 : decode cX0_makeCopies 14 = .ok (.iload_n 3, 1) := by decide +kernel
theorem dX0_makeCopies_15 : decode cX0_makeCopies 15 = .ok (.bipush 10, 2) := by decide +kernel
theorem dX0_makeCopies_17 : decode cX0_makeCopies 17 = .ok (.if_icmp .ge 55, 3) := by decide +kernel
theorem dX0_makeCopies_20 : decode cX0_makeCopies 20 = .ok (.aload_n 0, 1) := by decide +kernel
theorem dX0_makeCopies_21 : decode cX0_makeCopies 21 = .ok (.iload_n 2, 1) := by decide +kernel
theorem dX0_makeCopies_22 : decode cX0_makeCopies 22 = .ok (.invokevirtual 111, 3) := by decide +kernel
theorem dX0_makeCopies_25 : decode cX0_makeCopies 25 = .ok (.ifCond .eq 47, 3) := by decide +kernel
theorem dX0_makeCopies_28 : decode cX0_makeCopies 28 = .ok (.aload_n 0, 1) := by decide +kernel
theorem dX0_makeCopies_29 : decode cX0_makeCopies 29 = .ok (.iload_n 2, 1) := by decide +kernel
theorem dX0_makeCopies_30 : decode cX0_makeCopies 30 = .ok (.invokevirtual 150, 3) := by decide +kernel
theorem dX0_makeCopies_33 : decode cX0_makeCopies 33 = .ok (.istore 4, 2) := by decide +kernel
theorem dX0_makeCopies_35 : decode cX0_makeCopies 35 = .ok (.iload 4, 2) := by decide +kernel
theorem dX0_makeCopies_37 : decode cX0_makeCopies 37 = .ok (.iconst (-1), 1) := by decide +kernel
theorem dX0_makeCopies_38 : decode cX0_makeCopies 38 = .ok (.if_icmp .ne 6, 3) := by decide +kernel
theorem dX0_makeCopies_41 : decode cX0_makeCopies 41 = .ok (.goto 31, 3) := by decide +kernel
theorem dX0_makeCopies_44 : decode cX0_makeCopies 44 = .ok (.aload_n 0, 1) := by decide +kernel
theorem dX0_makeCopies_45 : decode cX0_makeCopies 45 = .ok (.iload_n 2, 1) := by decide +kernel
theorem dX0_makeCopies_46 : decode cX0_makeCopies 46 = .ok (.iload 4, 2) := by decide +kernel
theorem dX0_makeCopies_48 : decode cX0_makeCopies 48 = .ok (.aload_n 0, 1) := by decide +kernel
theorem dX0_makeCopies_49 : decode cX0_makeCopies 49 = .ok (.iload_n 2, 1) := by decide +kernel
theorem dX0_makeCopies_50 : decode cX0_makeCopies 50 = .ok (.aload_n 0, 1) := by decide +kernel
theorem dX0_makeCopies_51 : decode cX0_makeCopies 51 = .ok (.iload_n 2, 1) := by decide +kernel
theorem dX0_makeCopies_52 : decode cX0_makeCopies 52 = .ok (.iload 4, 2) := by decide +kernel
theorem dX0_makeCopies_54 : decode cX0_makeCopies 54 = .ok (.invokevirtual 153, 3) := by decide +kernel
theorem dX0_makeCopies_57 : decode cX0_makeCopies 57 = .ok (.invokevirtual 137, 3) := by decide +kernel
theorem dX0_makeCopies_60 : decode cX0_makeCopies 60 = .ok (.invokevirtual 156, 3) := by decide +kernel
theorem dX0_makeCopies_63 : decode cX0_makeCopies 63 = .ok (.iinc 1 1, 3) := by decide +kernel
theorem dX0_makeCopies_66 : decode cX0_makeCopies 66 = .ok (.iinc 3 1, 3) := by decide +kernel
theorem dX0_makeCopies_69 : decode cX0_makeCopies 69 = .ok (.goto (-55), 3) := by decide +kernel
theorem dX0_makeCopies_72 : decode cX0_makeCopies 72 = .ok (.iinc 2 1, 3) := by decide +kernel
theorem dX0_makeCopies_75 : decode cX0_makeCopies 75 = .ok (.goto (-71), 3) := by decide +kernel
theorem dX0_makeCopies_78 : decode cX0_makeCopies 78 = .ok (.iload_n 1, 1) := by decide +kernel
theorem dX0_makeCopies_79 : decode cX0_makeCopies 79 = .ok (.ireturn, 1) := by decide +kernel
theorem dX0_dangerBehindCopies_0 : decode cX0_dangerBehindCopies 0 = .ok (.aload_n 0, 1) := by decide +kernel
theorem dX0_dangerBehindCopies_1 : decode cX0_dangerBehindCopies 1 = .ok (.invokevirtual 159, 3) := by decide +kernel
theorem dX0_dangerBehindCopies_4 : decode cX0_dangerBehindCopies 4 = .ok (.pop, 1) := by decide +kernel
theorem dX0_dangerBehindCopies_5 : decode cX0_dangerBehindCopies 5 = .ok (.aload_n 0, 1) := by decide +kernel
theorem dX0_dangerBehindCopies_6 : decode cX0_dangerBehindCopies 6 = .ok (.invokevirtual 162, 3) := by decide +kernel
theorem dX0_dangerBehindCopies_9 : decode cX0_dangerBehindCopies 9 = .ok (.ireturn, 1) := by decide +kernel
theorem dX0_bestNewHolder_0 : decode cX0_bestNewHolder 0 = .ok (.iconst (-1), 1) := by decide +kernel
theorem dX0_bestNewHolder_1 : decode cX0_bestNewHolder 1 = .ok (.istore_n 2, 1) := by decide +kernel
theorem dX0_bestNewHolder_2 : decode cX0_bestNewHolder 2 = .ok (.iconst 0, 1) := by decide +kernel
theorem dX0_bestNewHolder_3 : decode cX0_bestNewHolder 3 = .ok (.istore_n 3, 1) := by decide +kernel
theorem dX0_bestNewHolder_4 : decode cX0_bestNewHolder 4 = .ok (.iload_n 3, 1) := by decide +kernel
theorem dX0_bestNewHolder_5 : decode cX0_bestNewHolder 5 = .ok (.aload_n 0, 1) := by decide +kernel
theorem dX0_bestNewHolder_6 : decode cX0_bestNewHolder 6 = .ok (.getfield 50, 3) := by decide +kernel
theorem dX0_bestNewHolder_9 : decode cX0_bestNewHolder 9 = .ok (.if_icmp .ge 63, 3) := by decide +kernel
theorem dX0_bestNewHolder_12 : decode cX0_bestNewHolder 12 = .ok (.aload_n 0, 1) := by decide +kernel
theorem dX0_bestNewHolder_13 : decode cX0_bestNewHolder 13 = .ok (.iload_n 1, 1) := by decide +kernel
theorem dX0_bestNewHolder_14 : decode cX0_bestNewHolder 14 = .ok (.iload_n 3, 1) := by decide +kernel
theorem dX0_bestNewHolder_15 : decode cX0_bestNewHolder 15 = .ok (.invokevirtual 118, 3) := by decide +kernel
theorem dX0_bestNewHolder_18 : decode cX0_bestNewHolder 18 = .ok (.ifCond .ne 24, 3) := by decide +kernel
theorem dX0_bestNewHolder_21 : decode cX0_bestNewHolder 21 = .ok (.aload_n 0, 1) := by decide +kernel
theorem dX0_bestNewHolder_22 : decode cX0_bestNewHolder 22 = .ok (.iload_n 3, 1) := by decide +kernel
theorem dX0_bestNewHolder_23 : decode cX0_bestNewHolder 23 = .ok (.invokevirtual 165, 3) := by decide +kernel
theorem dX0_bestNewHolder_26 : decode cX0_bestNewHolder 26 = .ok (.ifCond .le 16, 3) := by decide +kernel
theorem dX0_bestNewHolder_29 : decode cX0_bestNewHolder 29 = .ok (.aload_n 0, 1) := by decide +kernel
theorem dX0_bestNewHolder_30 : decode cX0_bestNewHolder 30 = .ok (.iload_n 1, 1) := by decide +kernel
theorem dX0_bestNewHolder_31 : decode cX0_bestNewHolder 31 = .ok (.iload_n 3, 1) := by decide +kernel
theorem dX0_bestNewHolder_32 : decode cX0_bestNewHolder 32 = .ok (.invokevirtual 153, 3) := by decide +kernel
theorem dX0_bestNewHolder_35 : decode cX0_bestNewHolder 35 = .ok (.ifCond .eq 7, 3) := by decide +kernel
theorem dX0_bestNewHolder_38 : decode cX0_bestNewHolder 38 = .ok (.iconst 1, 1) := by decide +kernel
theorem dX0_bestNewHolder_39 : decode cX0_bestNewHolder 39 = .ok (.goto 4, 3) := by decide +kernel
theorem dX0_bestNewHolder_42 : decode cX0_bestNewHolder 42 = .ok (.iconst 0, 1) := by decide +kernel
theorem dX0_bestNewHolder_43 : decode cX0_bestNewHolder 43 = .ok (.istore 4, 2) := by decide +kernel
theorem dX0_bestNewHolder_45 : decode cX0_bestNewHolder 45 = .ok (.iload 4, 2) := by decide +kernel
theorem dX0_bestNewHolder_47 : decode cX0_bestNewHolder 47 = .ok (.ifCond .eq 19, 3) := by decide +kernel
theorem dX0_bestNewHolder_50 : decode cX0_bestNewHolder 50 = .ok (.iload_n 2, 1) := by decide +kernel
theorem dX0_bestNewHolder_51 : decode cX0_bestNewHolder 51 = .ok (.iconst (-1), 1) := by decide +kernel
theorem dX0_bestNewHolder_52 : decode cX0_bestNewHolder 52 = .ok (.if_icmp .eq 12, 3) := by decide +kernel
theorem dX0_bestNewHolder_55 : decode cX0_bestNewHolder 55 = .ok (.aload_n 0, 1) := by decide +kernel
theorem dX0_bestNewHolder_56 : decode cX0_bestNewHolder 56 = .ok (.iload_n 3, 1) := by decide +kernel
theorem dX0_bestNewHolder_57 : decode cX0_bestNewHolder 57 = .ok (.iload_n 2, 1) := by decide +kernel
theorem dX0_bestNewHolder_58 : decode cX0_bestNewHolder 58 = .ok (.invokevirtual 168, 3) := by decide +kernel
theorem dX0_bestNewHolder_61 : decode cX0_bestNewHolder 61 = .ok (.ifCond .eq 5, 3) := by decide +kernel
theorem dX0_bestNewHolder_64 : decode cX0_bestNewHolder 64 = .ok (.iload_n 3, 1) := by decide +kernel
theorem dX0_bestNewHolder_65 : decode cX0_bestNewHolder 65 = .ok (.istore_n 2, 1) := by decide +kernel
theorem dX0_bestNewHolder_66 : decode cX0_bestNewHolder 66 = .ok (.iinc 3 1, 3) := by decide +kernel
theorem dX0_bestNewHolder_69 : decode cX0_bestNewHolder 69 = .ok (.goto (-65), 3) := by decide +kernel
theorem dX0_bestNewHolder_72 : decode cX0_bestNewHolder 72 = .ok (.iload_n 2, 1) := by decide +kernel
theorem dX0_bestNewHolder_73 : decode cX0_bestNewHolder 73 = .ok (.ireturn, 1) := by decide +kernel
theorem dX0_isBetterHolder_0 : decode cX0_isBetterHolder 0 = .ok (.aload_n 0, 1) := by decide +kernel
theorem dX0_isBetterHolder_1 : decode cX0_isBetterHolder 1 = .ok (.iload_n 1, 1) := by decide +kernel
theorem dX0_isBetterHolder_2 : decode cX0_isBetterHolder 2 = .ok (.invokevirtual 165, 3) := by decide +kernel
theorem dX0_isBetterHolder_5 : decode cX0_isBetterHolder 5 = .ok (.aload_n 0, 1) := by decide +kernel
theorem dX0_isBetterHolder_6 : decode cX0_isBetterHolder 6 = .ok (.iload_n 2, 1) := by decide +kernel
theorem dX0_isBetterHolder_7 : decode cX0_isBetterHolder 7 = .ok (.invokevirtual 165, 3) := by decide +kernel
theorem dX0_isBetterHolder_10 : decode cX0_isBetterHolder 10 = .ok (.if_icmp .eq 22, 3) := by decide +kernel
theorem dX0_isBetterHolder_13 : decode cX0_isBetterHolder 13 = .ok (.aload_n 0, 1) := by decide +kernel
theorem dX0_isBetterHolder_14 : decode cX0_isBetterHolder 14 = .ok (.iload_n 1, 1) := by decide +kernel
theorem dX0_isBetterHolder_15 : decode cX0_isBetterHolder 15 = .ok (.invokevirtual 165, 3) := by decide +kernel
theorem dX0_isBetterHolder_18 : decode cX0_isBetterHolder 18 = .ok (.aload_n 0, 1) := by decide +kernel
theorem dX0_isBetterHolder_19 : decode cX0_isBetterHolder 19 = .ok (.iload_n 2, 1) := by decide +kernel
theorem dX0_isBetterHolder_20 : decode cX0_isBetterHolder 20 = .ok (.invokevirtual 165, 3) := by decide +kernel
theorem dX0_isBetterHolder_23 : decode cX0_isBetterHolder 23 = .ok (.if_icmp .le 7, 3) := by decide +kernel
theorem dX0_isBetterHolder_26 : decode cX0_isBetterHolder 26 = .ok (.iconst 1, 1) := by decide +kernel
theorem dX0_isBetterHolder_27 : decode cX0_isBetterHolder 27 = .ok (.goto 4, 3) := by decide +kernel
theorem dX0_isBetterHolder_30 : decode cX0_isBetterHolder 30 = .ok (.iconst 0, 1) := by decide +kernel
theorem dX0_isBetterHolder_31 : decode cX0_isBetterHolder 31 = .ok (.ireturn, 1) := by decide +kernel
theorem dX0_isBetterHolder_32 : decode cX0_isBetterHolder 32 = .ok (.aload_n 0, 1) := by decide +kernel
theorem dX0_isBetterHolder_33 : decode cX0_isBetterHolder 33 = .ok (.iload_n 1, 1) := by decide +kernel
theorem dX0_isBetterHolder_34 : decode cX0_isBetterHolder 34 = .ok (.invokevirtual 171, 3) := by decide +kernel
theorem dX0_isBetterHolder_37 : decode cX0_isBetterHolder 37 = .ok (.aload_n 0, 1) := by decide +kernel
theorem dX0_isBetterHolder_38 : decode cX0_isBetterHolder 38 = .ok (.iload_n 2, 1) := by decide +kernel
theorem dX0_isBetterHolder_39 : decode cX0_isBetterHolder 39 = .ok (.invokevirtual 171, 3) := by decide +kernel
theorem dX0_isBetterHolder_42 : decode cX0_isBetterHolder 42 = .ok (.if_icmp .le 7, 3) := by decide +kernel
theorem dX0_isBetterHolder_45 : decode cX0_isBetterHolder 45 = .ok (.iconst 1, 1) := by decide +kernel
theorem dX0_isBetterHolder_46 : decode cX0_isBetterHolder 46 = .ok (.goto 4, 3) := by decide +kernel
theorem dX0_isBetterHolder_49 : decode cX0_isBetterHolder 49 = .ok (.iconst 0, 1) := by decide +kernel
theorem dX0_isBetterHolder_50 : decode cX0_isBetterHolder 50 = .ok (.ireturn, 1) := by decide +kernel
theorem dX0_roomLeft_0 : decode cX0_roomLeft 0 = .ok (.aload_n 0, 1) := by decide +kernel
theorem dX0_roomLeft_1 : decode cX0_roomLeft 1 = .ok (.getfield 15, 3) := by decide +kernel
theorem dX0_roomLeft_4 : decode cX0_roomLeft 4 = .ok (.iload_n 1, 1) := by decide +kernel
theorem dX0_roomLeft_5 : decode cX0_roomLeft 5 = .ok (.iaload, 1) := by decide +kernel
theorem dX0_roomLeft_6 : decode cX0_roomLeft 6 = .ok (.aload_n 0, 1) := by decide +kernel
theorem dX0_roomLeft_7 : decode cX0_roomLeft 7 = .ok (.getfield 28, 3) := by decide +kernel
theorem dX0_roomLeft_10 : decode cX0_roomLeft 10 = .ok (.iload_n 1, 1) := by decide +kernel
theorem dX0_roomLeft_11 : decode cX0_roomLeft 11 = .ok (.iaload, 1) := by decide +kernel
theorem dX0_roomLeft_12 : decode cX0_roomLeft 12 = .ok (.isub, 1) := by decide +kernel
theorem dX0_roomLeft_13 : decode cX0_roomLeft 13 = .ok (.ireturn, 1) := by decide +kernel
end
section
theorem dX4_init_0 : decode cX4_init 0 = .ok (.aload_n 0, 1) := by decide +kernel
theorem dX4_init_1 : decode cX4_init 1 = .ok (.invokespecial 3, 3) := by decide +kernel
theorem dX4_init_4 : decode cX4_init 4 = .ok (.aload_n 0, 1) := by decide +kernel
theorem dX4_init_5 : decode cX4_init 5 = .ok (.sipush 600, 3) := by decide +kernel
theorem dX4_init_8 : decode cX4_init 8 = .ok (.newarray .byte, 2) := by decide +kernel
theorem dX4_init_10 : decode cX4_init 10 = .ok (.putfield 9, 3) := by decide +kernel
theorem dX4_init_13 : decode cX4_init 13 = .ok (.aload_n 0, 1) := by decide +kernel
theorem dX4_init_14 : decode cX4_init 14 = .ok (.iconst 0, 1) := by decide +kernel
theorem dX4_init_15 : decode cX4_init 15 = .ok (.putfield 15, 3) := by decide +kernel
theorem dX4_init_18 : decode cX4_init 18 = .ok (.aload_n 0, 1) := by decide +kernel
theorem dX4_init_19 : decode cX4_init 19 = .ok (.iconst (-1), 1) := by decide +kernel
theorem dX4_init_20 : decode cX4_init 20 = .ok (.putfield 19, 3) := by decide +kernel
theorem dX4_init_23 : decode cX4_init 23 = .ok (.aload_n 0, 1) := by decide +kernel
theorem dX4_init_24 : decode cX4_init 24 = .ok (.iconst (-1), 1) := by decide +kernel
theorem dX4_init_25 : decode cX4_init 25 = .ok (.putfield 22, 3) := by decide +kernel
theorem dX4_init_28 : decode cX4_init 28 = .ok (.aload_n 0, 1) := by decide +kernel
theorem dX4_init_29 : decode cX4_init 29 = .ok (.iconst 0, 1) := by decide +kernel
theorem dX4_init_30 : decode cX4_init 30 = .ok (.putfield 25, 3) := by decide +kernel
theorem dX4_init_33 : decode cX4_init 33 = .ok (.aload_n 0, 1) := by decide +kernel
theorem dX4_init_34 : decode cX4_init 34 = .ok (.iconst 0, 1) := by decide +kernel
theorem dX4_init_35 : decode cX4_init 35 = .ok (.putfield 28, 3) := by decide +kernel
theorem dX4_init_38 : decode cX4_init 38 = .ok (.aload_n 0, 1) := by decide +kernel
theorem dX4_init_39 : decode cX4_init 39 = .ok (.iconst 0, 1) := by decide +kernel
theorem dX4_init_40 : decode cX4_init 40 = .ok (.putfield 31, 3) := by decide +kernel
theorem dX4_init_43 : decode cX4_init 43 = .ok (.aload_n 0, 1) := by decide +kernel
theorem dX4_init_44 : decode cX4_init 44 = .ok (.lconst 0, 1) := by decide +kernel
theorem dX4_init_45 : decode cX4_init 45 = .ok (.putfield 34, 3) := by decide +kernel
theorem dX4_init_48 : decode cX4_init 48 = .ok (.return_, 1) := by decide +kernel
theorem dX4_putBytes_0 : decode cX4_putBytes 0 = .ok (.iconst 3, 1) := by decide +kernel
theorem dX4_putBytes_1 : decode cX4_putBytes 1 = .ok (.istore_n 2, 1) := by decide +kernel
theorem dX4_putBytes_2 : decode cX4_putBytes 2 = .ok (.iload_n 2, 1) := by decide +kernel
theorem dX4_putBytes_3 : decode cX4_putBytes 3 = .ok (.ifCond .lt 51, 3) := by decide +kernel
theorem dX4_putBytes_6 : decode cX4_putBytes 6 = .ok (.iload_n 1, 1) := by decide +kernel
theorem dX4_putBytes_7 : decode cX4_putBytes 7 = .ok (.bipush 8, 2) := by decide +kernel
theorem dX4_putBytes_9 : decode cX4_putBytes 9 = .ok (.iload_n 2, 1) := by decide +kernel
theorem dX4_putBytes_10 : decode cX4_putBytes 10 = .ok (.imul, 1) := by decide +kernel
theorem dX4_putBytes_11 : decode cX4_putBytes 11 = .ok (.iushr, 1) := by decide +kernel
theorem dX4_putBytes_12 : decode cX4_putBytes 12 = .ok (.i2b, 1) := by decide +kernel
theorem dX4_putBytes_13 : decode cX4_putBytes 13 = .ok (.istore_n 3, 1) := by decide +kernel
theorem dX4_putBytes_14 : decode cX4_putBytes 14 = .ok (.iload_n 3, 1) := by decide +kernel
theorem dX4_putBytes_15 : decode cX4_putBytes 15 = .ok (.ifCond .eq 33, 3) := by decide +kernel
theorem dX4_putBytes_18 : decode cX4_putBytes 18 = .ok (.aload_n 0, 1) := by decide +kernel
theorem dX4_putBytes_19 : decode cX4_putBytes 19 = .ok (.getfield 15, 3) := by decide +kernel
theorem dX4_putBytes_22 : decode cX4_putBytes 22 = .ok (.sipush 600, 3) := by decide +kernel
theorem dX4_putBytes_25 : decode cX4_putBytes 25 = .ok (.if_icmp .ge 23, 3) := by decide +kernel
theorem dX4_putBytes_28 : decode cX4_putBytes 28 = .ok (.aload_n 0, 1) := by decide +kernel
theorem dX4_putBytes_29 : decode cX4_putBytes 29 = .ok (.getfield 9, 3) := by decide +kernel
theorem dX4_putBytes_32 : decode cX4_putBytes 32 = .ok (.aload_n 0, 1) := by decide +kernel
theorem dX4_putBytes_33 : decode cX4_putBytes 33 = .ok (.getfield 15, 3) := by decide +kernel
theorem dX4_putBytes_36 : decode cX4_putBytes 36 = .ok (.iload_n 3, 1) := by decide +kernel
theorem dX4_putBytes_37 : decode cX4_putBytes 37 = .ok (.bastore, 1) := by decide +kernel
theorem dX4_putBytes_38 : decode cX4_putBytes 38 = .ok (.aload_n 0, 1) := by decide +kernel
theorem dX4_putBytes_39 : decode cX4_putBytes 39 = .ok (.dup, 1) := by decide +kernel
theorem dX4_putBytes_40 : decode cX4_putBytes 40 = .ok (.getfield 15, 3) := by decide +kernel
theorem dX4_putBytes_43 : decode cX4_putBytes 43 = .ok (.iconst 1, 1) := by decide +kernel
theorem dX4_putBytes_44 : decode cX4_putBytes 44 = .ok (.iadd, 1) := by decide +kernel
theorem dX4_putBytes_45 : decode cX4_putBytes 45 = .ok (.putfield 15, 3) := by decide +kernel
theorem dX4_putBytes_48 : decode cX4_putBytes 48 = .ok (.iinc 2 (-1), 3) := by decide +kernel
theorem dX4_putBytes_51 : decode cX4_putBytes 51 = .ok (.goto (-49), 3) := by decide +kernel
theorem dX4_putBytes_54 : decode cX4_putBytes 54 = .ok (.return_, 1) := by decide +kernel
theorem dX4_readText_0 : decode cX4_readText 0 = .ok (.aload_n 0, 1) := by decide +kernel
theorem dX4_readText_1 : decode cX4_readText 1 = .ok (.iconst 0, 1) := by decide +kernel
theorem dX4_readText_2 : decode cX4_readText 2 = .ok (.putfield 25, 3) := by decide +kernel
theorem dX4_readText_5 : decode cX4_readText 5 = .ok (.aload_n 0, 1) := by decide +kernel
theorem dX4_readText_6 : decode cX4_readText 6 = .ok (.iconst (-1), 1) := by decide +kernel
theorem dX4_readText_7 : decode cX4_readText 7 = .ok (.putfield 19, 3) := by decide +kernel
theorem dX4_readText_10 : decode cX4_readText 10 = .ok (.aload_n 0, 1) := by decide +kernel
theorem dX4_readText_11 : decode cX4_readText 11 = .ok (.iconst (-1), 1) := by decide +kernel
theorem dX4_readText_12 : decode cX4_readText 12 = .ok (.putfield 22, 3) := by decide +kernel
theorem dX4_readText_15 : decode cX4_readText 15 = .ok (.aload_n 0, 1) := by decide +kernel
theorem dX4_readText_16 : decode cX4_readText 16 = .ok (.aload_n 1, 1) := by decide +kernel
theorem dX4_readText_17 : decode cX4_readText 17 = .ok (.invokevirtual 38, 3) := by decide +kernel
theorem dX4_readText_20 : decode cX4_readText 20 = .ok (.ifCond .eq 15, 3) := by decide +kernel
theorem dX4_readText_23 : decode cX4_readText 23 = .ok (.aload_n 0, 1) := by decide +kernel
theorem dX4_readText_24 : decode cX4_readText 24 = .ok (.aload_n 1, 1) := by decide +kernel
theorem dX4_readText_25 : decode cX4_readText 25 = .ok (.invokevirtual 42, 3) := by decide +kernel
theorem dX4_readText_28 : decode cX4_readText 28 = .ok (.ifCond .eq 7, 3) := by decide +kernel
theorem dX4_readText_31 : decode cX4_readText 31 = .ok (.iconst 1, 1) := by decide +kernel
theorem dX4_readText_32 : decode cX4_readText 32 = .ok (.goto 4, 3) := by decide +kernel
theorem dX4_readText_35 : decode cX4_readText 35 = .ok (.iconst 0, 1) := by decide +kernel
theorem dX4_readText_36 : decode cX4_readText 36 = .ok (.istore_n 2, 1) := by decide +kernel
theorem dX4_readText_37 : decode cX4_readText 37 = .ok (.iconst 0, 1) := by decide +kernel
theorem dX4_readText_38 : decode cX4_readText 38 = .ok (.istore_n 3, 1) := by decide +kernel
theorem dX4_readText_39 : decode cX4_readText 39 = .ok (.iload_n 3, 1) := by decide +kernel
theorem dX4_readText_40 : decode cX4_readText 40 = .ok (.sipush 600, 3) := by decide +kernel
theorem dX4_readText_43 : decode cX4_readText 43 = .ok (.if_icmp .ge 28, 3) := by decide +kernel
theorem dX4_readText_46 : decode cX4_readText 46 = .ok (.iload_n 2, 1) := by decide +kernel
theorem dX4_readText_47 : decode cX4_readText 47 = .ok (.ifCond .eq 24, 3) := by decide +kernel
theorem dX4_readText_50 : decode cX4_readText 50 = .ok (.aload_n 0, 1) := by decide +kernel
theorem dX4_readText_51 : decode cX4_readText 51 = .ok (.ldc 45, 2) := by decide +kernel
theorem dX4_readText_53 : decode cX4_readText 53 = .ok (.invokevirtual 47, 3) := by decide +kernel
theorem dX4_readText_56 : decode cX4_readText 56 = .ok (.ifCond .eq 15, 3) := by decide +kernel
theorem dX4_readText_59 : decode cX4_readText 59 = .ok (.aload_n 0, 1) := by decide +kernel
theorem dX4_readText_60 : decode cX4_readText 60 = .ok (.aload_n 1, 1) := by decide +kernel
theorem dX4_readText_61 : decode cX4_readText 61 = .ok (.invokevirtual 51, 3) := by decide +kernel
theorem dX4_readText_64 : decode cX4_readText 64 = .ok (.istore_n 2, 1) := by decide +kernel
theorem dX4_readText_65 : decode cX4_readText 65 = .ok (.iinc 3 1, 3) := by decide +kernel
theorem dX4_readText_68 : decode cX4_readText 68 = .ok (.goto (-29), 3) := by decide +kernel
theorem dX4_readText_71 : decode cX4_readText 71 = .ok (.iload_n 2, 1) := by decide +kernel
theorem dX4_readText_72 : decode cX4_readText 72 = .ok (.ifCond .eq 14, 3) := by decide +kernel
theorem dX4_readText_75 : decode cX4_readText 75 = .ok (.aload_n 0, 1) := by decide +kernel
theorem dX4_readText_76 : decode cX4_readText 76 = .ok (.invokevirtual 54, 3) := by decide +kernel
theorem dX4_readText_79 : decode cX4_readText 79 = .ok (.ifCond .eq 7, 3) := by decide +kernel
theorem dX4_readText_82 : decode cX4_readText 82 = .ok (.iconst 1, 1) := by decide +kernel
theorem dX4_readText_83 : decode cX4_readText 83 = .ok (.goto 4, 3) := by decide +kernel
theorem dX4_readText_86 : decode cX4_readText 86 = .ok (.iconst 0, 1) := by decide +kernel
theorem dX4_readText_87 : decode cX4_readText 87 = .ok (.istore_n 2, 1) := by decide +kernel
theorem dX4_readText_88 : decode cX4_readText 88 = .ok (.aload_n 0, 1) := by decide +kernel
theorem dX4_readText_89 : decode cX4_readText 89 = .ok (.iconst 0, 1) := by decide +kernel
theorem dX4_readText_90 : decode cX4_readText 90 = .ok (.putfield 15, 3) := by decide +kernel
theorem dX4_readText_93 : decode cX4_readText 93 = .ok (.iload_n 2, 1) := by decide +kernel
theorem dX4_readText_94 : decode cX4_readText 94 = .ok (.ireturn, 1) := by decide +kernel
theorem dX4_readHead_0 : decode cX4_readHead 0 = .ok (.aload_n 0, 1) := by decide +kernel
theorem dX4_readHead_1 : decode cX4_readHead 1 = .ok (.ldc 58, 2) := by decide +kernel
theorem dX4_readHead_3 : decode cX4_readHead 3 = .ok (.invokevirtual 60, 3) := by decide +kernel
theorem dX4_readHead_6 : decode cX4_readHead 6 = .ok (.ifCond .eq 20, 3) := by decide +kernel
theorem dX4_readHead_9 : decode cX4_readHead 9 = .ok (.aload_n 0, 1) := by decide +kernel
theorem dX4_readHead_10 : decode cX4_readHead 10 = .ok (.iconst 4, 1) := by decide +kernel
theorem dX4_readHead_11 : decode cX4_readHead 11 = .ok (.bipush 16, 2) := by decide +kernel
theorem dX4_readHead_13 : decode cX4_readHead 13 = .ok (.invokevirtual 63, 3) := by decide +kernel
theorem dX4_readHead_16 : decode cX4_readHead 16 = .ok (.ifCond .eq 10, 3) := by decide +kernel
theorem dX4_readHead_19 : decode cX4_readHead 19 = .ok (.aload_n 0, 1) := by decide +kernel
theorem dX4_readHead_20 : decode cX4_readHead 20 = .ok (.invokevirtual 67, 3) := by decide +kernel
theorem dX4_readHead_23 : decode cX4_readHead 23 = .ok (.ifCond .ne 5, 3) := by decide +kernel
theorem dX4_readHead_26 : decode cX4_readHead 26 = .ok (.iconst 0, 1) := by decide +kernel
theorem dX4_readHead_27 : decode cX4_readHead 27 = .ok (.ireturn, 1) := by decide +kernel
theorem dX4_readHead_28 : decode cX4_readHead 28 = .ok (.aload_n 1, 1) := by decide +kernel
theorem dX4_readHead_29 : decode cX4_readHead 29 = .ok (.aload_n 0, 1) := by decide +kernel
theorem dX4_readHead_30 : decode cX4_readHead 30 = .ok (.getfield 31, 3) := by decide +kernel
theorem dX4_readHead_33 : decode cX4_readHead 33 = .ok (.invokevirtual 70, 3) := by decide +kernel
theorem dX4_readHead_36 : decode cX4_readHead 36 = .ok (.iconst 0, 1) := by decide +kernel
theorem dX4_readHead_37 : decode cX4_readHead 37 = .ok (.istore_n 2, 1) := by decide +kernel
theorem dX4_readHead_38 : decode cX4_readHead 38 = .ok (.iload_n 2, 1) := by decide +kernel
theorem dX4_readHead_39 : decode cX4_readHead 39 = .ok (.bipush 10, 2) := by decide +kernel
theorem dX4_readHead_41 : decode cX4_readHead 41 = .ok (.if_icmp .gt 52, 3) := by decide +kernel
theorem dX4_readHead_44 : decode cX4_readHead 44 = .ok (.aload_n 0, 1) := by decide +kernel
theorem dX4_readHead_45 : decode cX4_readHead 45 = .ok (.ldc 76, 2) := by decide +kernel
theorem dX4_readHead_47 : decode cX4_readHead 47 = .ok (.invokevirtual 47, 3) := by decide +kernel
theorem dX4_readHead_50 : decode cX4_readHead 50 = .ok (.istore_n 3, 1) := by decide +kernel
theorem dX4_readHead_51 : decode cX4_readHead 51 = .ok (.iload_n 3, 1) := by decide +kernel
theorem dX4_readHead_52 : decode cX4_readHead 52 = .ok (.ifCond .ne 19, 3) := by decide +kernel
theorem dX4_readHead_55 : decode cX4_readHead 55 = .ok (.iload_n 2, 1) := by decide +kernel
theorem dX4_readHead_56 : decode cX4_readHead 56 = .ok (.iconst 2, 1) := by decide +kernel
theorem dX4_readHead_57 : decode cX4_readHead 57 = .ok (.if_icmp .ge 14, 3) := by decide +kernel
theorem dX4_readHead_60 : decode cX4_readHead 60 = .ok (.aload_n 0, 1) := by decide +kernel
theorem dX4_readHead_61 : decode cX4_readHead 61 = .ok (.bipush (-2), 2) := by decide +kernel
theorem dX4_readHead_63 : decode cX4_readHead 63 = .ok (.aload_n 0, 1) := by decide +kernel
theorem dX4_readHead_64 : decode cX4_readHead 64 = .ok (.getfield 25, 3) := by decide +kernel
theorem dX4_readHead_67 : decode cX4_readHead 67 = .ok (.invokevirtual 78, 3) := by decide +kernel
theorem dX4_readHead_70 : decode cX4_readHead 70 = .ok (.ireturn, 1) := by decide +kernel
theorem dX4_readHead_71 : decode cX4_readHead 71 = .ok (.iload_n 3, 1) := by decide +kernel
theorem dX4_readHead_72 : decode cX4_readHead 72 = .ok (.ifCond .ne 5, 3) := by decide +kernel
theorem dX4_readHead_75 : decode cX4_readHead 75 = .ok (.iconst 1, 1) := by decide +kernel
theorem dX4_readHead_76 : decode cX4_readHead 76 = .ok (.ireturn, 1) := by decide +kernel
theorem dX4_readHead_77 : decode cX4_readHead 77 = .ok (.aload_n 0, 1) := by decide +kernel
theorem dX4_readHead_78 : decode cX4_readHead 78 = .ok (.aload_n 1, 1) := by decide +kernel
theorem dX4_readHead_79 : decode cX4_readHead 79 = .ok (.invokevirtual 81, 3) := by decide +kernel
theorem dX4_readHead_82 : decode cX4_readHead 82 = .ok (.ifCond .ne 5, 3) := by decide +kernel
theorem dX4_readHead_85 : decode cX4_readHead 85 = .ok (.iconst 0, 1) := by decide +kernel
theorem dX4_readHead_86 : decode cX4_readHead 86 = .ok (.ireturn, 1) := by decide +kernel
theorem dX4_readHead_87 : decode cX4_readHead 87 = .ok (.iinc 2 1, 3) := by decide +kernel
theorem dX4_readHead_90 : decode cX4_readHead 90 = .ok (.goto (-52), 3) := by decide +kernel
theorem dX4_readHead_93 : decode cX4_readHead 93 = .ok (.iconst 1, 1) := by decide +kernel
theorem dX4_readHead_94 : decode cX4_readHead 94 = .ok (.ireturn, 1) := by decide +kernel
theorem dX4_readFamily_0 : decode cX4_readFamily 0 = .ok (.aload_n 1, 1) := by decide +kernel
theorem dX4_readFamily_1 : decode cX4_readFamily 1 = .ok (.getfield 84, 3) := by decide +kernel
theorem dX4_readFamily_4 : decode cX4_readFamily 4 = .ok (.bipush 10, 2) := by decide +kernel
theorem dX4_readFamily_6 : decode cX4_readFamily 6 = .ok (.if_icmp .lt 14, 3) := by decide +kernel
theorem dX4_readFamily_9 : decode cX4_readFamily 9 = .ok (.aload_n 0, 1) := by decide +kernel
theorem dX4_readFamily_10 : decode cX4_readFamily 10 = .ok (.bipush (-7), 2) := by decide +kernel
theorem dX4_readFamily_12 : decode cX4_readFamily 12 = .ok (.aload_n 0, 1) := by decide +kernel
theorem dX4_readFamily_13 : decode cX4_readFamily 13 = .ok (.getfield 28, 3) := by decide +kernel
theorem dX4_readFamily_16 : decode cX4_readFamily 16 = .ok (.invokevirtual 78, 3) := by decide +kernel
theorem dX4_readFamily_19 : decode cX4_readFamily 19 = .ok (.ireturn, 1) := by decide +kernel
theorem dX4_readFamily_20 : decode cX4_readFamily 20 = .ok (.aload_n 0, 1) := by decide +kernel
theorem dX4_readFamily_21 : decode cX4_readFamily 21 = .ok (.invokevirtual 87, 3) := by decide +kernel
theorem dX4_readFamily_24 : decode cX4_readFamily 24 = .ok (.ifCond .ne 5, 3) := by decide +kernel
theorem dX4_readFamily_27 : decode cX4_readFamily 27 = .ok (.iconst 0, 1) := by decide +kernel
theorem dX4_readFamily_28 : decode cX4_readFamily 28 = .ok (.ireturn, 1) := by decide +kernel
theorem dX4_readFamily_29 : decode cX4_readFamily 29 = .ok (.aload_n 0, 1) := by decide +kernel
theorem dX4_readFamily_30 : decode cX4_readFamily 30 = .ok (.aload_n 1, 1) := by decide +kernel
theorem dX4_readFamily_31 : decode cX4_readFamily 31 = .ok (.getfield 90, 3) := by decide +kernel
theorem dX4_readFamily_34 : decode cX4_readFamily 34 = .ok (.aload_n 1, 1) := by decide +kernel
theorem dX4_readFamily_35 : decode cX4_readFamily 35 = .ok (.getfield 84, 3) := by decide +kernel
theorem dX4_readFamily_38 : decode cX4_readFamily 38 = .ok (.invokevirtual 94, 3) := by decide +kernel
theorem dX4_readFamily_41 : decode cX4_readFamily 41 = .ok (.iconst (-1), 1) := by decide +kernel
theorem dX4_readFamily_42 : decode cX4_readFamily 42 = .ok (.if_icmp .eq 14, 3) := by decide +kernel
theorem dX4_readFamily_45 : decode cX4_readFamily 45 = .ok (.aload_n 0, 1) := by decide +kernel
theorem dX4_readFamily_46 : decode cX4_readFamily 46 = .ok (.bipush (-5), 2) := by decide +kernel
theorem dX4_readFamily_48 : decode cX4_readFamily 48 = .ok (.aload_n 0, 1) := by decide +kernel
theorem dX4_readFamily_49 : decode cX4_readFamily 49 = .ok (.getfield 28, 3) := by decide +kernel
theorem dX4_readFamily_52 : decode cX4_readFamily 52 = .ok (.invokevirtual 78, 3) := by decide +kernel
theorem dX4_readFamily_55 : decode cX4_readFamily 55 = .ok (.ireturn, 1) := by decide +kernel
theorem dX4_readFamily_56 : decode cX4_readFamily 56 = .ok (.aload_n 0, 1) := by decide +kernel
theorem dX4_readFamily_57 : decode cX4_readFamily 57 = .ok (.getfield 34, 3) := by decide +kernel
theorem dX4_readFamily_60 : decode cX4_readFamily 60 = .ok (.lstore_n 2, 1) := by decide +kernel
theorem dX4_readFamily_61 : decode cX4_readFamily 61 = .ok (.aload_n 0, 1) := by decide +kernel
theorem dX4_readFamily_62 : decode cX4_readFamily 62 = .ok (.iconst 1, 1) := by decide +kernel
theorem dX4_readFamily_63 : decode cX4_readFamily 63 = .ok (.bipush 20, 2) := by decide +kernel
theorem dX4_readFamily_65 : decode cX4_readFamily 65 = .ok (.invokevirtual 63, 3) := by decide +kernel
theorem dX4_readFamily_68 : decode cX4_readFamily 68 = .ok (.ifCond .ne 5, 3) := by decide +kernel
theorem dX4_readFamily_71 : decode cX4_readFamily 71 = .ok (.iconst 0, 1) := by decide +kernel
theorem dX4_readFamily_72 : decode cX4_readFamily 72 = .ok (.ireturn, 1) := by decide +kernel
theorem dX4_readFamily_73 : decode cX4_readFamily 73 = .ok (.aload_n 1, 1) := by decide +kernel
theorem dX4_readFamily_74 : decode cX4_readFamily 74 = .ok (.lload_n 2, 1) := by decide +kernel
theorem dX4_readFamily_75 : decode cX4_readFamily 75 = .ok (.aload_n 0, 1) := by decide +kernel
theorem dX4_readFamily_76 : decode cX4_readFamily 76 = .ok (.getfield 31, 3) := by decide +kernel
theorem dX4_readFamily_79 : decode cX4_readFamily 79 = .ok (.invokevirtual 98, 3) := by decide +kernel
theorem dX4_readFamily_82 : decode cX4_readFamily 82 = .ok (.aload_n 0, 1) := by decide +kernel
theorem dX4_readFamily_83 : decode cX4_readFamily 83 = .ok (.invokevirtual 67, 3) := by decide +kernel
theorem dX4_readFamily_86 : decode cX4_readFamily 86 = .ok (.ireturn, 1) := by decide +kernel
theorem dX4_readNeighbours_0 : decode cX4_readNeighbours 0 = .ok (.iconst 0, 1) := by decide +kernel
theorem dX4_readNeighbours_1 : decode cX4_readNeighbours 1 = .ok (.istore_n 2, 1) := by decide +kernel
theorem dX4_readNeighbours_2 : decode cX4_readNeighbours 2 = .ok (.iload_n 2, 1) := by decide +kernel
theorem dX4_readNeighbours_3 : decode cX4_readNeighbours 3 = .ok (.sipush 600, 3) := by decide +kernel
theorem dX4_readNeighbours_6 : decode cX4_readNeighbours 6 = .ok (.if_icmp .ge 91, 3) := by decide +kernel
theorem dX4_readNeighbours_9 : decode cX4_readNeighbours 9 = .ok (.aload_n 0, 1) := by decide +kernel
theorem dX4_readNeighbours_10 : decode cX4_readNeighbours 10 = .ok (.ldc 102, 2) := by decide +kernel
theorem dX4_readNeighbours_12 : decode cX4_readNeighbours 12 = .ok (.invokevirtual 47, 3) := by decide +kernel
theorem dX4_readNeighbours_15 : decode cX4_readNeighbours 15 = .ok (.ifCond .eq 82, 3) := by decide +kernel
theorem dX4_readNeighbours_18 : decode cX4_readNeighbours 18 = .ok (.aload_n 0, 1) := by decide +kernel
theorem dX4_readNeighbours_19 : decode cX4_readNeighbours 19 = .ok (.aload_n 1, 1) := by decide +kernel
theorem dX4_readNeighbours_20 : decode cX4_readNeighbours 20 = .ok (.invokevirtual 104, 3) := by decide +kernel
theorem dX4_readNeighbours_23 : decode cX4_readNeighbours 23 = .ok (.istore_n 3, 1) := by decide +kernel
theorem dX4_readNeighbours_24 : decode cX4_readNeighbours 24 = .ok (.iload_n 3, 1) := by decide +kernel
theorem dX4_readNeighbours_25 : decode cX4_readNeighbours 25 = .ok (.iconst (-1), 1) := by decide +kernel
theorem dX4_readNeighbours_26 : decode cX4_readNeighbours 26 = .ok (.if_icmp .ne 7, 3) := by decide +kernel
theorem dX4_readNeighbours_29 : decode cX4_readNeighbours 29 = .ok (.iconst (-1), 1) := by decide +kernel
theorem dX4_readNeighbours_30 : decode cX4_readNeighbours 30 = .ok (.goto 8, 3) := by decide +kernel
theorem dX4_readNeighbours_33 : decode cX4_readNeighbours 33 = .ok (.aload_n 0, 1) := by decide +kernel
theorem dX4_readNeighbours_34 : decode cX4_readNeighbours 34 = .ok (.aload_n 1, 1) := by decide +kernel
theorem dX4_readNeighbours_35 : decode cX4_readNeighbours 35 = .ok (.invokevirtual 104, 3) := by decide +kernel
theorem dX4_readNeighbours_38 : decode cX4_readNeighbours 38 = .ok (.istore 4, 2) := by decide +kernel
theorem dX4_readNeighbours_40 : decode cX4_readNeighbours 40 = .ok (.iload 4, 2) := by decide +kernel
theorem dX4_readNeighbours_42 : decode cX4_readNeighbours 42 = .ok (.iconst (-1), 1) := by decide +kernel
theorem dX4_readNeighbours_43 : decode cX4_readNeighbours 43 = .ok (.if_icmp .ne 5, 3) := by decide +kernel
theorem dX4_readNeighbours_46 : decode cX4_readNeighbours 46 = .ok (.iconst 0, 1) := by decide +kernel
theorem dX4_readNeighbours_47 : decode cX4_readNeighbours 47 = .ok (.ireturn, 1) := by decide +kernel
theorem dX4_readNeighbours_48 : decode cX4_readNeighbours 48 = .ok (.iload_n 3, 1) := by decide +kernel
theorem dX4_readNeighbours_49 : decode cX4_readNeighbours 49 = .ok (.iload 4, 2) := by decide +kernel
theorem dX4_readNeighbours_51 : decode cX4_readNeighbours 51 = .ok (.if_icmp .eq 13, 3) := by decide +kernel
theorem dX4_readNeighbours_54 : decode cX4_readNeighbours 54 = .ok (.aload_n 1, 1) := by decide +kernel
theorem dX4_readNeighbours_55 : decode cX4_readNeighbours 55 = .ok (.iload_n 3, 1) := by decide +kernel
theorem dX4_readNeighbours_56 : decode cX4_readNeighbours 56 = .ok (.iload 4, 2) := by decide +kernel
theorem dX4_readNeighbours_58 : decode cX4_readNeighbours 58 = .ok (.invokevirtual 108, 3) := by decide +kernel
theorem dX4_readNeighbours_61 : decode cX4_readNeighbours 61 = .ok (.ifCond .eq 14, 3) := by decide +kernel
theorem dX4_readNeighbours_64 : decode cX4_readNeighbours 64 = .ok (.aload_n 0, 1) := by decide +kernel
theorem dX4_readNeighbours_65 : decode cX4_readNeighbours 65 = .ok (.bipush (-5), 2) := by decide +kernel
theorem dX4_readNeighbours_67 : decode cX4_readNeighbours 67 = .ok (.aload_n 0, 1) := by decide +kernel
theorem dX4_readNeighbours_68 : decode cX4_readNeighbours 68 = .ok (.getfield 28, 3) := by decide +kernel
theorem dX4_readNeighbours_71 : decode cX4_readNeighbours 71 = .ok (.invokevirtual 78, 3) := by decide +kernel
theorem dX4_readNeighbours_74 : decode cX4_readNeighbours 74 = .ok (.ireturn, 1) := by decide +kernel
theorem dX4_readNeighbours_75 : decode cX4_readNeighbours 75 = .ok (.aload_n 1, 1) := by decide +kernel
theorem dX4_readNeighbours_76 : decode cX4_readNeighbours 76 = .ok (.iload_n 3, 1) := by decide +kernel
theorem dX4_readNeighbours_77 : decode cX4_readNeighbours 77 = .ok (.iload 4, 2) := by decide +kernel
theorem dX4_readNeighbours_79 : decode cX4_readNeighbours 79 = .ok (.invokevirtual 111, 3) := by decide +kernel
theorem dX4_readNeighbours_82 : decode cX4_readNeighbours 82 = .ok (.aload_n 0, 1) := by decide +kernel
theorem dX4_readNeighbours_83 : decode cX4_readNeighbours 83 = .ok (.invokevirtual 67, 3) := by decide +kernel
theorem dX4_readNeighbours_86 : decode cX4_readNeighbours 86 = .ok (.ifCond .ne 5, 3) := by decide +kernel
theorem dX4_readNeighbours_89 : decode cX4_readNeighbours 89 = .ok (.iconst 0, 1) := by decide +kernel
theorem dX4_readNeighbours_90 : decode cX4_readNeighbours 90 = .ok (.ireturn, 1) := by decide +kernel
theorem dX4_readNeighbours_91 : decode cX4_readNeighbours 91 = .ok (.iinc 2 1, 3) := by decide +kernel
theorem dX4_readNeighbours_94 : decode cX4_readNeighbours 94 = .ok (.goto (-92), 3) := by decide +kernel
theorem dX4_readNeighbours_97 : decode cX4_readNeighbours 97 = .ok (.iconst 1, 1) := by decide +kernel
theorem dX4_readNeighbours_98 : decode cX4_readNeighbours 98 = .ok (.ireturn, 1) := by decide +kernel
theorem dX4_readPicture_0 : decode cX4_readPicture 0 = .ok (.aload_n 1, 1) := by decide +kernel
theorem dX4_readPicture_1 : decode cX4_readPicture 1 = .ok (.getfield 115, 3) := by decide +kernel
theorem dX4_readPicture_4 : decode cX4_readPicture 4 = .ok (.istore_n 2, 1) := by decide +kernel
theorem dX4_readPicture_5 : decode cX4_readPicture 5 = .ok (.iload_n 2, 1) := by decide +kernel
theorem dX4_readPicture_6 : decode cX4_readPicture 6 = .ok (.bipush 12, 2) := by decide +kernel
theorem dX4_readPicture_8 : decode cX4_readPicture 8 = .ok (.if_icmp .lt 14, 3) := by decide +kernel
theorem dX4_readPicture_11 : decode cX4_readPicture 11 = .ok (.aload_n 0, 1) := by decide +kernel
theorem dX4_readPicture_12 : decode cX4_readPicture 12 = .ok (.bipush (-7), 2) := by decide +kernel
theorem dX4_readPicture_14 : decode cX4_readPicture 14 = .ok (.aload_n 0, 1) := by decide +kernel
theorem dX4_readPicture_15 : decode cX4_readPicture 15 = .ok (.getfield 28, 3) := by decide +kernel
theorem dX4_readPicture_18 : decode cX4_readPicture 18 = .ok (.invokevirtual 78, 3) := by decide +kernel
theorem dX4_readPicture_21 : decode cX4_readPicture 21 = .ok (.ireturn, 1) := by decide +kernel
theorem dX4_readPicture_22 : decode cX4_readPicture 22 = .ok (.aload_n 0, 1) := by decide +kernel
theorem dX4_readPicture_23 : decode cX4_readPicture 23 = .ok (.invokevirtual 87, 3) := by decide +kernel
theorem dX4_readPicture_26 : decode cX4_readPicture 26 = .ok (.ifCond .ne 5, 3) := by decide +kernel
theorem dX4_readPicture_29 : decode cX4_readPicture 29 = .ok (.iconst 0, 1) := by decide +kernel
theorem dX4_readPicture_30 : decode cX4_readPicture 30 = .ok (.ireturn, 1) := by decide +kernel
theorem dX4_readPicture_31 : decode cX4_readPicture 31 = .ok (.aload_n 0, 1) := by decide +kernel
theorem dX4_readPicture_32 : decode cX4_readPicture 32 = .ok (.aload_n 1, 1) := by decide +kernel
theorem dX4_readPicture_33 : decode cX4_readPicture 33 = .ok (.getfield 118, 3) := by decide +kernel
theorem dX4_readPicture_36 : decode cX4_readPicture 36 = .ok (.iload_n 2, 1) := by decide +kernel
theorem dX4_readPicture_37 : decode cX4_readPicture 37 = .ok (.invokevirtual 94, 3) := by decide +kernel
theorem dX4_readPicture_40 : decode cX4_readPicture 40 = .ok (.iconst (-1), 1) := by decide +kernel
theorem dX4_readPicture_41 : decode cX4_readPicture 41 = .ok (.if_icmp .eq 14, 3) := by decide +kernel
theorem dX4_readPicture_44 : decode cX4_readPicture 44 = .ok (.aload_n 0, 1) := by decide +kernel
theorem dX4_readPicture_45 : decode cX4_readPicture 45 = .ok (.bipush (-5), 2) := by decide +kernel
theorem dX4_readPicture_47 : decode cX4_readPicture 47 = .ok (.aload_n 0, 1) := by decide +kernel
theorem dX4_readPicture_48 : decode cX4_readPicture 48 = .ok (.getfield 28, 3) := by decide +kernel
theorem dX4_readPicture_51 : decode cX4_readPicture 51 = .ok (.invokevirtual 78, 3) := by decide +kernel
theorem dX4_readPicture_54 : decode cX4_readPicture 54 = .ok (.ireturn, 1) := by decide +kernel
theorem dX4_readPicture_55 : decode cX4_readPicture 55 = .ok (.aload_n 0, 1) := by decide +kernel
theorem dX4_readPicture_56 : decode cX4_readPicture 56 = .ok (.getfield 34, 3) := by decide +kernel
theorem dX4_readPicture_59 : decode cX4_readPicture 59 = .ok (.lstore_n 3, 1) := by decide +kernel
theorem dX4_readPicture_60 : decode cX4_readPicture 60 = .ok (.aload_n 0, 1) := by decide +kernel
theorem dX4_readPicture_61 : decode cX4_readPicture 61 = .ok (.ldc 121, 2) := by decide +kernel
theorem dX4_readPicture_63 : decode cX4_readPicture 63 = .ok (.invokevirtual 60, 3) := by decide +kernel
theorem dX4_readPicture_66 : decode cX4_readPicture 66 = .ok (.ifCond .eq 13, 3) := by decide +kernel
theorem dX4_readPicture_69 : decode cX4_readPicture 69 = .ok (.aload_n 0, 1) := by decide +kernel
theorem dX4_readPicture_70 : decode cX4_readPicture 70 = .ok (.iconst 1, 1) := by decide +kernel
theorem dX4_readPicture_71 : decode cX4_readPicture 71 = .ok (.bipush 10, 2) := by decide +kernel
theorem dX4_readPicture_73 : decode cX4_readPicture 73 = .ok (.invokevirtual 63, 3) := by decide +kernel
theorem dX4_readPicture_76 : decode cX4_readPicture 76 = .ok (.ifCond .ne 5, 3) := by decide +kernel
theorem dX4_readPicture_79 : decode cX4_readPicture 79 = .ok (.iconst 0, 1) := by decide +kernel
theorem dX4_readPicture_80 : decode cX4_readPicture 80 = .ok (.ireturn, 1) := by decide +kernel
theorem dX4_readPicture_81 : decode cX4_readPicture 81 = .ok (.aload_n 1, 1) := by decide +kernel
theorem dX4_readPicture_82 : decode cX4_readPicture 82 = .ok (.lload_n 3, 1) := by decide +kernel
theorem dX4_readPicture_83 : decode cX4_readPicture 83 = .ok (.aload_n 0, 1) := by decide +kernel
theorem dX4_readPicture_84 : decode cX4_readPicture 84 = .ok (.getfield 31, 3) := by decide +kernel
theorem dX4_readPicture_87 : decode cX4_readPicture 87 = .ok (.invokevirtual 123, 3) := by decide +kernel
theorem dX4_readPicture_90 : decode cX4_readPicture 90 = .ok (.iconst 0, 1) := by decide +kernel
theorem dX4_readPicture_91 : decode cX4_readPicture 91 = .ok (.istore 5, 2) := by decide +kernel
theorem dX4_readPicture_93 : decode cX4_readPicture 93 = .ok (.iload 5, 2) := by decide +kernel
theorem dX4_readPicture_95 : decode cX4_readPicture 95 = .ok (.sipush 600, 3) := by decide +kernel
theorem dX4_readPicture_98 : decode cX4_readPicture 98 = .ok (.if_icmp .ge 29, 3) := by decide +kernel
theorem dX4_readPicture_101 : decode cX4_readPicture 101 = .ok (.aload_n 0, 1) := by decide +kernel
theorem dX4_readPicture_102 : decode cX4_readPicture 102 = .ok (.ldc 126, 2) := by decide +kernel
theorem dX4_readPicture_104 : decode cX4_readPicture 104 = .ok (.invokevirtual 47, 3) := by decide +kernel
theorem dX4_readPicture_107 : decode cX4_readPicture 107 = .ok (.ifCond .eq 20, 3) := by decide +kernel
theorem dX4_readPicture_110 : decode cX4_readPicture 110 = .ok (.aload_n 0, 1) := by decide +kernel
theorem dX4_readPicture_111 : decode cX4_readPicture 111 = .ok (.aload_n 1, 1) := by decide +kernel
theorem dX4_readPicture_112 : decode cX4_readPicture 112 = .ok (.iload_n 2, 1) := by decide +kernel
theorem dX4_readPicture_113 : decode cX4_readPicture 113 = .ok (.invokevirtual 128, 3) := by decide +kernel
theorem dX4_readPicture_116 : decode cX4_readPicture 116 = .ok (.ifCond .ne 5, 3) := by decide +kernel
theorem dX4_readPicture_119 : decode cX4_readPicture 119 = .ok (.iconst 0, 1) := by decide +kernel
theorem dX4_readPicture_120 : decode cX4_readPicture 120 = .ok (.ireturn, 1) := by decide +kernel
theorem dX4_readPicture_121 : decode cX4_readPicture 121 = .ok (.iinc 5 1, 3) := by decide +kernel
theorem dX4_readPicture_124 : decode cX4_readPicture 124 = .ok (.goto (-31), 3) := by decide +kernel
theorem dX4_readPicture_127 : decode cX4_readPicture 127 = .ok (.aload_n 0, 1) := by decide +kernel
theorem dX4_readPicture_128 : decode cX4_readPicture 128 = .ok (.invokevirtual 67, 3) := by decide +kernel
theorem dX4_readPicture_131 : decode cX4_readPicture 131 = .ok (.ireturn, 1) := by decide +kernel
theorem dX4_readCopy_0 : decode cX4_readCopy 0 = .ok (.aload_n 0, 1) := by decide +kernel
theorem dX4_readCopy_1 : decode cX4_readCopy 1 = .ok (.aload_n 1, 1) := by decide +kernel
theorem dX4_readCopy_2 : decode cX4_readCopy 2 = .ok (.invokevirtual 104, 3) := by decide +kernel
theorem dX4_readCopy_5 : decode cX4_readCopy 5 = .ok (.istore_n 3, 1) := by decide +kernel
theorem dX4_readCopy_6 : decode cX4_readCopy 6 = .ok (.iload_n 3, 1) := by decide +kernel
theorem dX4_readCopy_7 : decode cX4_readCopy 7 = .ok (.iconst (-1), 1) := by decide +kernel
theorem dX4_readCopy_8 : decode cX4_readCopy 8 = .ok (.if_icmp .ne 5, 3) := by decide +kernel
theorem dX4_readCopy_11 : decode cX4_readCopy 11 = .ok (.iconst 0, 1) := by decide +kernel
theorem dX4_readCopy_12 : decode cX4_readCopy 12 = .ok (.ireturn, 1) := by decide +kernel
theorem dX4_readCopy_13 : decode cX4_readCopy 13 = .ok (.aload_n 1, 1) := by decide +kernel
theorem dX4_readCopy_14 : decode cX4_readCopy 14 = .ok (.iload_n 2, 1) := by decide +kernel
theorem dX4_readCopy_15 : decode cX4_readCopy 15 = .ok (.iload_n 3, 1) := by decide +kernel
theorem dX4_readCopy_16 : decode cX4_readCopy 16 = .ok (.invokevirtual 132, 3) := by decide +kernel
theorem dX4_readCopy_19 : decode cX4_readCopy 19 = .ok (.ifCond .eq 14, 3) := by decide +kernel
theorem dX4_readCopy_22 : decode cX4_readCopy 22 = .ok (.aload_n 0, 1) := by decide +kernel
theorem dX4_readCopy_23 : decode cX4_readCopy 23 = .ok (.bipush (-5), 2) := by decide +kernel
theorem dX4_readCopy_25 : decode cX4_readCopy 25 = .ok (.aload_n 0, 1) := by decide +kernel
theorem dX4_readCopy_26 : decode cX4_readCopy 26 = .ok (.getfield 28, 3) := by decide +kernel
theorem dX4_readCopy_29 : decode cX4_readCopy 29 = .ok (.invokevirtual 78, 3) := by decide +kernel
theorem dX4_readCopy_32 : decode cX4_readCopy 32 = .ok (.ireturn, 1) := by decide +kernel
theorem dX4_readCopy_33 : decode cX4_readCopy 33 = .ok (.aload_n 1, 1) := by decide +kernel
theorem dX4_readCopy_34 : decode cX4_readCopy 34 = .ok (.iload_n 3, 1) := by decide +kernel
theorem dX4_readCopy_35 : decode cX4_readCopy 35 = .ok (.invokevirtual 135, 3) := by decide +kernel
theorem dX4_readCopy_38 : decode cX4_readCopy 38 = .ok (.ifCond .gt 14, 3) := by decide +kernel
theorem dX4_readCopy_41 : decode cX4_readCopy 41 = .ok (.aload_n 0, 1) := by decide +kernel
theorem dX4_readCopy_42 : decode cX4_readCopy 42 = .ok (.bipush (-6), 2) := by decide +kernel
theorem dX4_readCopy_44 : decode cX4_readCopy 44 = .ok (.aload_n 0, 1) := by decide +kernel
theorem dX4_readCopy_45 : decode cX4_readCopy 45 = .ok (.getfield 28, 3) := by decide +kernel
theorem dX4_readCopy_48 : decode cX4_readCopy 48 = .ok (.invokevirtual 78, 3) := by decide +kernel
theorem dX4_readCopy_51 : decode cX4_readCopy 51 = .ok (.ireturn, 1) := by decide +kernel
theorem dX4_readCopy_52 : decode cX4_readCopy 52 = .ok (.aload_n 0, 1) := by decide +kernel
theorem dX4_readCopy_53 : decode cX4_readCopy 53 = .ok (.ldc 139, 2) := by decide +kernel
theorem dX4_readCopy_55 : decode cX4_readCopy 55 = .ok (.invokevirtual 47, 3) := by decide +kernel
theorem dX4_readCopy_58 : decode cX4_readCopy 58 = .ok (.ifCond .eq 14, 3) := by decide +kernel
theorem dX4_readCopy_61 : decode cX4_readCopy 61 = .ok (.aload_n 0, 1) := by decide +kernel
theorem dX4_readCopy_62 : decode cX4_readCopy 62 = .ok (.aload_n 1, 1) := by decide +kernel
theorem dX4_readCopy_63 : decode cX4_readCopy 63 = .ok (.getfield 141, 3) := by decide +kernel
theorem dX4_readCopy_66 : decode cX4_readCopy 66 = .ok (.invokevirtual 143, 3) := by decide +kernel
theorem dX4_readCopy_69 : decode cX4_readCopy 69 = .ok (.goto 4, 3) := by decide +kernel
theorem dX4_readCopy_72 : decode cX4_readCopy 72 = .ok (.iconst 0, 1) := by decide +kernel
theorem dX4_readCopy_73 : decode cX4_readCopy 73 = .ok (.istore 4, 2) := by decide +kernel
theorem dX4_readCopy_75 : decode cX4_readCopy 75 = .ok (.iload 4, 2) := by decide +kernel
theorem dX4_readCopy_77 : decode cX4_readCopy 77 = .ok (.iconst (-1), 1) := by decide +kernel
theorem dX4_readCopy_78 : decode cX4_readCopy 78 = .ok (.if_icmp .ne 5, 3) := by decide +kernel
theorem dX4_readCopy_81 : decode cX4_readCopy 81 = .ok (.iconst 0, 1) := by decide +kernel
theorem dX4_readCopy_82 : decode cX4_readCopy 82 = .ok (.ireturn, 1) := by decide +kernel
theorem dX4_readCopy_83 : decode cX4_readCopy 83 = .ok (.aload_n 1, 1) := by decide +kernel
theorem dX4_readCopy_84 : decode cX4_readCopy 84 = .ok (.iload_n 2, 1) := by decide +kernel
theorem dX4_readCopy_85 : decode cX4_readCopy 85 = .ok (.iload_n 3, 1) := by decide +kernel
theorem dX4_readCopy_86 : decode cX4_readCopy 86 = .ok (.iload 4, 2) := by decide +kernel
theorem dX4_readCopy_88 : decode cX4_readCopy 88 = .ok (.invokevirtual 146, 3) := by decide +kernel
theorem dX4_readCopy_91 : decode cX4_readCopy 91 = .ok (.iconst 1, 1) := by decide +kernel
theorem dX4_readCopy_92 : decode cX4_readCopy 92 = .ok (.ireturn, 1) := by decide +kernel
theorem dX4_needTiles_0 : decode cX4_needTiles 0 = .ok (.iconst 0, 1) := by decide +kernel
theorem dX4_needTiles_1 : decode cX4_needTiles 1 = .ok (.istore_n 2, 1) := by decide +kernel
theorem dX4_needTiles_2 : decode cX4_needTiles 2 = .ok (.iconst 0, 1) := by decide +kernel
theorem dX4_needTiles_3 : decode cX4_needTiles 3 = .ok (.istore_n 3, 1) := by decide +kernel
theorem dX4_needTiles_4 : decode cX4_needTiles 4 = .ok (.iload_n 3, 1) := by decide +kernel
theorem dX4_needTiles_5 : decode cX4_needTiles 5 = .ok (.iload_n 1, 1) := by decide +kernel
theorem dX4_needTiles_6 : decode cX4_needTiles 6 = .ok (.if_icmp .gt 66, 3) := by decide +kernel
theorem dX4_needTiles_9 : decode cX4_needTiles 9 = .ok (.iload_n 3, 1) := by decide +kernel
theorem dX4_needTiles_10 : decode cX4_needTiles 10 = .ok (.ifCond .eq 10, 3) := by decide +kernel
theorem dX4_needTiles_13 : decode cX4_needTiles 13 = .ok (.aload_n 0, 1) := by decide +kernel
theorem dX4_needTiles_14 : decode cX4_needTiles 14 = .ok (.invokevirtual 150, 3) := by decide +kernel
theorem dX4_needTiles_17 : decode cX4_needTiles 17 = .ok (.ifCond .eq 55, 3) := by decide +kernel
theorem dX4_needTiles_20 : decode cX4_needTiles 20 = .ok (.aload_n 0, 1) := by decide +kernel
theorem dX4_needTiles_21 : decode cX4_needTiles 21 = .ok (.iconst 0, 1) := by decide +kernel
theorem dX4_needTiles_22 : decode cX4_needTiles 22 = .ok (.iload_n 1, 1) := by decide +kernel
theorem dX4_needTiles_23 : decode cX4_needTiles 23 = .ok (.iconst 1, 1) := by decide +kernel
theorem dX4_needTiles_24 : decode cX4_needTiles 24 = .ok (.isub, 1) := by decide +kernel
theorem dX4_needTiles_25 : decode cX4_needTiles 25 = .ok (.invokevirtual 63, 3) := by decide +kernel
theorem dX4_needTiles_28 : decode cX4_needTiles 28 = .ok (.ifCond .ne 5, 3) := by decide +kernel
theorem dX4_needTiles_31 : decode cX4_needTiles 31 = .ok (.iconst (-1), 1) := by decide +kernel
theorem dX4_needTiles_32 : decode cX4_needTiles 32 = .ok (.ireturn, 1) := by decide +kernel
theorem dX4_needTiles_33 : decode cX4_needTiles 33 = .ok (.iload_n 2, 1) := by decide +kernel
theorem dX4_needTiles_34 : decode cX4_needTiles 34 = .ok (.aload_n 0, 1) := by decide +kernel
theorem dX4_needTiles_35 : decode cX4_needTiles 35 = .ok (.getfield 31, 3) := by decide +kernel
theorem dX4_needTiles_38 : decode cX4_needTiles 38 = .ok (.iushr, 1) := by decide +kernel
theorem dX4_needTiles_39 : decode cX4_needTiles 39 = .ok (.iconst 1, 1) := by decide +kernel
theorem dX4_needTiles_40 : decode cX4_needTiles 40 = .ok (.iand, 1) := by decide +kernel
theorem dX4_needTiles_41 : decode cX4_needTiles 41 = .ok (.ifCond .eq 16, 3) := by decide +kernel
theorem dX4_needTiles_44 : decode cX4_needTiles 44 = .ok (.aload_n 0, 1) := by decide +kernel
theorem dX4_needTiles_45 : decode cX4_needTiles 45 = .ok (.bipush (-5), 2) := by decide +kernel
theorem dX4_needTiles_47 : decode cX4_needTiles 47 = .ok (.aload_n 0, 1) := by decide +kernel
theorem dX4_needTiles_48 : decode cX4_needTiles 48 = .ok (.getfield 28, 3) := by decide +kernel
theorem dX4_needTiles_51 : decode cX4_needTiles 51 = .ok (.invokevirtual 78, 3) := by decide +kernel
theorem dX4_needTiles_54 : decode cX4_needTiles 54 = .ok (.pop, 1) := by decide +kernel
theorem dX4_needTiles_55 : decode cX4_needTiles 55 = .ok (.iconst (-1), 1) := by decide +kernel
theorem dX4_needTiles_56 : decode cX4_needTiles 56 = .ok (.ireturn, 1) := by decide +kernel
theorem dX4_needTiles_57 : decode cX4_needTiles 57 = .ok (.iload_n 2, 1) := by decide +kernel
theorem dX4_needTiles_58 : decode cX4_needTiles 58 = .ok (.iconst 1, 1) := by decide +kernel
theorem dX4_needTiles_59 : decode cX4_needTiles 59 = .ok (.aload_n 0, 1) := by decide +kernel
theorem dX4_needTiles_60 : decode cX4_needTiles 60 = .ok (.getfield 31, 3) := by decide +kernel
theorem dX4_needTiles_63 : decode cX4_needTiles 63 = .ok (.ishl, 1) := by decide +kernel
theorem dX4_needTiles_64 : decode cX4_needTiles 64 = .ok (.ior, 1) := by decide +kernel
theorem dX4_needTiles_65 : decode cX4_needTiles 65 = .ok (.istore_n 2, 1) := by decide +kernel
theorem dX4_needTiles_66 : decode cX4_needTiles 66 = .ok (.iinc 3 1, 3) := by decide +kernel
theorem dX4_needTiles_69 : decode cX4_needTiles 69 = .ok (.goto (-65), 3) := by decide +kernel
theorem dX4_needTiles_72 : decode cX4_needTiles 72 = .ok (.iload_n 2, 1) := by decide +kernel
theorem dX4_needTiles_73 : decode cX4_needTiles 73 = .ok (.ireturn, 1) := by decide +kernel
theorem dX4_needFamilyName_0 : decode cX4_needFamilyName 0 = .ok (.aload_n 0, 1) := by decide +kernel
theorem dX4_needFamilyName_1 : decode cX4_needFamilyName 1 = .ok (.invokevirtual 87, 3) := by decide +kernel
theorem dX4_needFamilyName_4 : decode cX4_needFamilyName 4 = .ok (.ifCond .ne 5, 3) := by decide +kernel
theorem dX4_needFamilyName_7 : decode cX4_needFamilyName 7 = .ok (.iconst (-1), 1) := by decide +kernel
theorem dX4_needFamilyName_8 : decode cX4_needFamilyName 8 = .ok (.ireturn, 1) := by decide +kernel
theorem dX4_needFamilyName_9 : decode cX4_needFamilyName 9 = .ok (.aload_n 0, 1) := by decide +kernel
theorem dX4_needFamilyName_10 : decode cX4_needFamilyName 10 = .ok (.aload_n 1, 1) := by decide +kernel
theorem dX4_needFamilyName_11 : decode cX4_needFamilyName 11 = .ok (.getfield 90, 3) := by decide +kernel
theorem dX4_needFamilyName_14 : decode cX4_needFamilyName 14 = .ok (.aload_n 1, 1) := by decide +kernel
theorem dX4_needFamilyName_15 : decode cX4_needFamilyName 15 = .ok (.getfield 84, 3) := by decide +kernel
theorem dX4_needFamilyName_18 : decode cX4_needFamilyName 18 = .ok (.invokevirtual 94, 3) := by decide +kernel
theorem dX4_needFamilyName_21 : decode cX4_needFamilyName 21 = .ok (.istore_n 2, 1) := by decide +kernel
theorem dX4_needFamilyName_22 : decode cX4_needFamilyName 22 = .ok (.iload_n 2, 1) := by decide +kernel
theorem dX4_needFamilyName_23 : decode cX4_needFamilyName 23 = .ok (.iconst (-1), 1) := by decide +kernel
theorem dX4_needFamilyName_24 : decode cX4_needFamilyName 24 = .ok (.if_icmp .ne 14, 3) := by decide +kernel
theorem dX4_needFamilyName_27 : decode cX4_needFamilyName 27 = .ok (.aload_n 0, 1) := by decide +kernel
theorem dX4_needFamilyName_28 : decode cX4_needFamilyName 28 = .ok (.bipush (-4), 2) := by decide +kernel
theorem dX4_needFamilyName_30 : decode cX4_needFamilyName 30 = .ok (.aload_n 0, 1) := by decide +kernel
theorem dX4_needFamilyName_31 : decode cX4_needFamilyName 31 = .ok (.getfield 28, 3) := by decide +kernel
theorem dX4_needFamilyName_34 : decode cX4_needFamilyName 34 = .ok (.invokevirtual 78, 3) := by decide +kernel
theorem dX4_needFamilyName_37 : decode cX4_needFamilyName 37 = .ok (.pop, 1) := by decide +kernel
theorem dX4_needFamilyName_38 : decode cX4_needFamilyName 38 = .ok (.iload_n 2, 1) := by decide +kernel
theorem dX4_needFamilyName_39 : decode cX4_needFamilyName 39 = .ok (.ireturn, 1) := by decide +kernel
theorem dX4_placeOf_0 : decode cX4_placeOf 0 = .ok (.iconst 0, 1) := by decide +kernel
theorem dX4_placeOf_1 : decode cX4_placeOf 1 = .ok (.istore_n 3, 1) := by decide +kernel
theorem dX4_placeOf_2 : decode cX4_placeOf 2 = .ok (.iload_n 3, 1) := by decide +kernel
theorem dX4_placeOf_3 : decode cX4_placeOf 3 = .ok (.iload_n 2, 1) := by decide +kernel
theorem dX4_placeOf_4 : decode cX4_placeOf 4 = .ok (.if_icmp .ge 28, 3) := by decide +kernel
theorem dX4_placeOf_7 : decode cX4_placeOf 7 = .ok (.iload_n 3, 1) := by decide +kernel
theorem dX4_placeOf_8 : decode cX4_placeOf 8 = .ok (.aload_n 1, 1) := by decide +kernel
theorem dX4_placeOf_9 : decode cX4_placeOf 9 = .ok (.arraylength, 1) := by decide +kernel
theorem dX4_placeOf_10 : decode cX4_placeOf 10 = .ok (.if_icmp .ge 22, 3) := by decide +kernel
theorem dX4_placeOf_13 : decode cX4_placeOf 13 = .ok (.aload_n 1, 1) := by decide +kernel
theorem dX4_placeOf_14 : decode cX4_placeOf 14 = .ok (.iload_n 3, 1) := by decide +kernel
theorem dX4_placeOf_15 : decode cX4_placeOf 15 = .ok (.laload, 1) := by decide +kernel
theorem dX4_placeOf_16 : decode cX4_placeOf 16 = .ok (.aload_n 0, 1) := by decide +kernel
theorem dX4_placeOf_17 : decode cX4_placeOf 17 = .ok (.getfield 34, 3) := by decide +kernel
theorem dX4_placeOf_20 : decode cX4_placeOf 20 = .ok (.lcmp, 1) := by decide +kernel
theorem dX4_placeOf_21 : decode cX4_placeOf 21 = .ok (.ifCond .ne 5, 3) := by decide +kernel
theorem dX4_placeOf_24 : decode cX4_placeOf 24 = .ok (.iload_n 3, 1) := by decide +kernel
theorem dX4_placeOf_25 : decode cX4_placeOf 25 = .ok (.ireturn, 1) := by decide +kernel
theorem dX4_placeOf_26 : decode cX4_placeOf 26 = .ok (.iinc 3 1, 3) := by decide +kernel
theorem dX4_placeOf_29 : decode cX4_placeOf 29 = .ok (.goto (-27), 3) := by decide +kernel
theorem dX4_placeOf_32 : decode cX4_placeOf 32 = .ok (.iconst (-1), 1) := by decide +kernel
theorem dX4_placeOf_33 : decode cX4_placeOf 33 = .ok (.ireturn, 1) := by decide +kernel
theorem dX4_fail_0 : decode cX4_fail 0 = .ok (.aload_n 0, 1) := by decide +kernel
theorem dX4_fail_1 : decode cX4_fail 1 = .ok (.iload_n 1, 1) := by decide +kernel
theorem dX4_fail_2 : decode cX4_fail 2 = .ok (.putfield 19, 3) := by decide +kernel
theorem dX4_fail_5 : decode cX4_fail 5 = .ok (.aload_n 0, 1) := by decide +kernel
theorem dX4_fail_6 : decode cX4_fail 6 = .ok (.iload_n 2, 1) := by decide +kernel
theorem dX4_fail_7 : decode cX4_fail 7 = .ok (.putfield 22, 3) := by decide +kernel
theorem dX4_fail_10 : decode cX4_fail 10 = .ok (.iconst 0, 1) := by decide +kernel
theorem dX4_fail_11 : decode cX4_fail 11 = .ok (.ireturn, 1) := by decide +kernel
theorem dX4_skipSpaces_0 : decode cX4_skipSpaces 0 = .ok (.aload_n 0, 1) := by decide +kernel
theorem dX4_skipSpaces_1 : decode cX4_skipSpaces 1 = .ok (.getfield 25, 3) := by decide +kernel
theorem dX4_skipSpaces_4 : decode cX4_skipSpaces 4 = .ok (.istore_n 1, 1) := by decide +kernel
theorem dX4_skipSpaces_5 : decode cX4_skipSpaces 5 = .ok (.iload_n 1, 1) := by decide +kernel
theorem dX4_skipSpaces_6 : decode cX4_skipSpaces 6 = .ok (.aload_n 0, 1) := by decide +kernel
theorem dX4_skipSpaces_7 : decode cX4_skipSpaces 7 = .ok (.getfield 15, 3) := by decide +kernel
theorem dX4_skipSpaces_10 : decode cX4_skipSpaces 10 = .ok (.if_icmp .ge 27, 3) := by decide +kernel
theorem dX4_skipSpaces_13 : decode cX4_skipSpaces 13 = .ok (.aload_n 0, 1) := by decide +kernel
theorem dX4_skipSpaces_14 : decode cX4_skipSpaces 14 = .ok (.getfield 9, 3) := by decide +kernel
theorem dX4_skipSpaces_17 : decode cX4_skipSpaces 17 = .ok (.iload_n 1, 1) := by decide +kernel
theorem dX4_skipSpaces_18 : decode cX4_skipSpaces 18 = .ok (.baload, 1) := by decide +kernel
theorem dX4_skipSpaces_19 : decode cX4_skipSpaces 19 = .ok (.bipush 32, 2) := by decide +kernel
theorem dX4_skipSpaces_21 : decode cX4_skipSpaces 21 = .ok (.if_icmp .ne 16, 3) := by decide +kernel
theorem dX4_skipSpaces_24 : decode cX4_skipSpaces 24 = .ok (.aload_n 0, 1) := by decide +kernel
theorem dX4_skipSpaces_25 : decode cX4_skipSpaces 25 = .ok (.iload_n 1, 1) := by decide +kernel
theorem dX4_skipSpaces_26 : decode cX4_skipSpaces 26 = .ok (.iconst 1, 1) := by decide +kernel
theorem dX4_skipSpaces_27 : decode cX4_skipSpaces 27 = .ok (.iadd, 1) := by decide +kernel
theorem dX4_skipSpaces_28 : decode cX4_skipSpaces 28 = .ok (.putfield 25, 3) := by decide +kernel
theorem dX4_skipSpaces_31 : decode cX4_skipSpaces 31 = .ok (.iinc 1 1, 3) := by decide +kernel
theorem dX4_skipSpaces_34 : decode cX4_skipSpaces 34 = .ok (.goto (-29), 3) := by decide +kernel
theorem dX4_skipSpaces_37 : decode cX4_skipSpaces 37 = .ok (.return_, 1) := by decide +kernel
theorem dX4_wordEnd_0 : decode cX4_wordEnd 0 = .ok (.aload_n 0, 1) := by decide +kernel
theorem dX4_wordEnd_1 : decode cX4_wordEnd 1 = .ok (.getfield 25, 3) := by decide +kernel
theorem dX4_wordEnd_4 : decode cX4_wordEnd 4 = .ok (.istore_n 1, 1) := by decide +kernel
theorem dX4_wordEnd_5 : decode cX4_wordEnd 5 = .ok (.iload_n 1, 1) := by decide +kernel
theorem dX4_wordEnd_6 : decode cX4_wordEnd 6 = .ok (.aload_n 0, 1) := by decide +kernel
theorem dX4_wordEnd_7 : decode cX4_wordEnd 7 = .ok (.getfield 15, 3) := by decide +kernel
theorem dX4_wordEnd_10 : decode cX4_wordEnd 10 = .ok (.if_icmp .ge 33, 3) := by decide +kernel
theorem dX4_wordEnd_13 : decode cX4_wordEnd 13 = .ok (.aload_n 0, 1) := by decide +kernel
theorem dX4_wordEnd_14 : decode cX4_wordEnd 14 = .ok (.getfield 9, 3) := by decide +kernel
theorem dX4_wordEnd_17 : decode cX4_wordEnd 17 = .ok (.iload_n 1, 1) := by decide +kernel
theorem dX4_wordEnd_18 : decode cX4_wordEnd 18 = .ok (.baload, 1) := by decide +kernel
theorem dX4_wordEnd_19 : decode cX4_wordEnd 19 = .ok (.bipush 97, 2) := by decide +kernel
theorem dX4_wordEnd_21 : decode cX4_wordEnd 21 = .ok (.if_icmp .lt 14, 3) := by decide +kernel
theorem dX4_wordEnd_24 : decode cX4_wordEnd 24 = .ok (.aload_n 0, 1) := by decide +kernel
theorem dX4_wordEnd_25 : decode cX4_wordEnd 25 = .ok (.getfield 9, 3) := by decide +kernel
theorem dX4_wordEnd_28 : decode cX4_wordEnd 28 = .ok (.iload_n 1, 1) := by decide +kernel
theorem dX4_wordEnd_29 : decode cX4_wordEnd 29 = .ok (.baload, 1) := by decide +kernel
theorem dX4_wordEnd_30 : decode cX4_wordEnd 30 = .ok (.bipush 122, 2) := by decide +kernel
theorem dX4_wordEnd_32 : decode cX4_wordEnd 32 = .ok (.if_icmp .le 5, 3) := by decide +kernel
theorem dX4_wordEnd_35 : decode cX4_wordEnd 35 = .ok (.iload_n 1, 1) := by decide +kernel
theorem dX4_wordEnd_36 : decode cX4_wordEnd 36 = .ok (.ireturn, 1) := by decide +kernel
theorem dX4_wordEnd_37 : decode cX4_wordEnd 37 = .ok (.iinc 1 1, 3) := by decide +kernel
theorem dX4_wordEnd_40 : decode cX4_wordEnd 40 = .ok (.goto (-35), 3) := by decide +kernel
theorem dX4_wordEnd_43 : decode cX4_wordEnd 43 = .ok (.aload_n 0, 1) := by decide +kernel
theorem dX4_wordEnd_44 : decode cX4_wordEnd 44 = .ok (.getfield 15, 3) := by decide +kernel
theorem dX4_wordEnd_47 : decode cX4_wordEnd 47 = .ok (.ireturn, 1) := by decide +kernel
theorem dX4_takeWord_0 : decode cX4_takeWord 0 = .ok (.aload_n 0, 1) := by decide +kernel
theorem dX4_takeWord_1 : decode cX4_takeWord 1 = .ok (.invokevirtual 153, 3) := by decide +kernel
theorem dX4_takeWord_4 : decode cX4_takeWord 4 = .ok (.aload_n 0, 1) := by decide +kernel
theorem dX4_takeWord_5 : decode cX4_takeWord 5 = .ok (.invokevirtual 156, 3) := by decide +kernel
theorem dX4_takeWord_8 : decode cX4_takeWord 8 = .ok (.istore_n 2, 1) := by decide +kernel
theorem dX4_takeWord_9 : decode cX4_takeWord 9 = .ok (.iload_n 2, 1) := by decide +kernel
theorem dX4_takeWord_10 : decode cX4_takeWord 10 = .ok (.aload_n 0, 1) := by decide +kernel
theorem dX4_takeWord_11 : decode cX4_takeWord 11 = .ok (.getfield 25, 3) := by decide +kernel
theorem dX4_takeWord_14 : decode cX4_takeWord 14 = .ok (.isub, 1) := by decide +kernel
theorem dX4_takeWord_15 : decode cX4_takeWord 15 = .ok (.aload_n 1, 1) := by decide +kernel
theorem dX4_takeWord_16 : decode cX4_takeWord 16 = .ok (.invokevirtual 160, 3) := by decide +kernel
theorem dX4_takeWord_19 : decode cX4_takeWord 19 = .ok (.if_icmp .eq 5, 3) := by decide +kernel
theorem dX4_takeWord_22 : decode cX4_takeWord 22 = .ok (.iconst 0, 1) := by decide +kernel
theorem dX4_takeWord_23 : decode cX4_takeWord 23 = .ok (.ireturn, 1) := by decide +kernel
theorem dX4_takeWord_24 : decode cX4_takeWord 24 = .ok (.iconst 0, 1) := by decide +kernel
theorem dX4_takeWord_25 : decode cX4_takeWord 25 = .ok (.istore_n 3, 1) := by decide +kernel
theorem dX4_takeWord_26 : decode cX4_takeWord 26 = .ok (.iload_n 3, 1) := by decide +kernel
theorem dX4_takeWord_27 : decode cX4_takeWord 27 = .ok (.aload_n 1, 1) := by decide +kernel
theorem dX4_takeWord_28 : decode cX4_takeWord 28 = .ok (.invokevirtual 160, 3) := by decide +kernel
theorem dX4_takeWord_31 : decode cX4_takeWord 31 = .ok (.if_icmp .ge 30, 3) := by decide +kernel
theorem dX4_takeWord_34 : decode cX4_takeWord 34 = .ok (.aload_n 0, 1) := by decide +kernel
theorem dX4_takeWord_35 : decode cX4_takeWord 35 = .ok (.getfield 9, 3) := by decide +kernel
theorem dX4_takeWord_38 : decode cX4_takeWord 38 = .ok (.aload_n 0, 1) := by decide +kernel
theorem dX4_takeWord_39 : decode cX4_takeWord 39 = .ok (.getfield 25, 3) := by decide +kernel
theorem dX4_takeWord_42 : decode cX4_takeWord 42 = .ok (.iload_n 3, 1) := by decide +kernel
theorem dX4_takeWord_43 : decode cX4_takeWord 43 = .ok (.iadd, 1) := by decide +kernel
theorem dX4_takeWord_44 : decode cX4_takeWord 44 = .ok (.baload, 1) := by decide +kernel
theorem dX4_takeWord_45 : decode cX4_takeWord 45 = .ok (.aload_n 1, 1) := by decide +kernel
theorem dX4_takeWord_46 : decode cX4_takeWord 46 = .ok (.iload_n 3, 1) := by decide +kernel
theorem dX4_takeWord_47 : decode cX4_takeWord 47 = .ok (.invokevirtual 164, 3) := by decide +kernel
theorem dX4_takeWord_50 : decode cX4_takeWord 50 = .ok (.if_icmp .eq 5, 3) := by decide +kernel
theorem dX4_takeWord_53 : decode cX4_takeWord 53 = .ok (.iconst 0, 1) := by decide +kernel
theorem dX4_takeWord_54 : decode cX4_takeWord 54 = .ok (.ireturn, 1) := by decide +kernel
theorem dX4_takeWord_55 : decode cX4_takeWord 55 = .ok (.iinc 3 1, 3) := by decide +kernel
theorem dX4_takeWord_58 : decode cX4_takeWord 58 = .ok (.goto (-32), 3) := by decide +kernel
theorem dX4_takeWord_61 : decode cX4_takeWord 61 = .ok (.aload_n 0, 1) := by decide +kernel
theorem dX4_takeWord_62 : decode cX4_takeWord 62 = .ok (.aload_n 0, 1) := by decide +kernel
theorem dX4_takeWord_63 : decode cX4_takeWord 63 = .ok (.getfield 25, 3) := by decide +kernel
theorem dX4_takeWord_66 : decode cX4_takeWord 66 = .ok (.putfield 28, 3) := by decide +kernel
theorem dX4_takeWord_69 : decode cX4_takeWord 69 = .ok (.aload_n 0, 1) := by decide +kernel
theorem dX4_takeWord_70 : decode cX4_takeWord 70 = .ok (.iload_n 2, 1) := by decide +kernel
theorem dX4_takeWord_71 : decode cX4_takeWord 71 = .ok (.putfield 25, 3) := by decide +kernel
theorem dX4_takeWord_74 : decode cX4_takeWord 74 = .ok (.iconst 1, 1) := by decide +kernel
theorem dX4_takeWord_75 : decode cX4_takeWord 75 = .ok (.ireturn, 1) := by decide +kernel
theorem dX4_needWord_0 : decode cX4_needWord 0 = .ok (.aload_n 0, 1) := by decide +kernel
theorem dX4_needWord_1 : decode cX4_needWord 1 = .ok (.aload_n 1, 1) := by decide +kernel
theorem dX4_needWord_2 : decode cX4_needWord 2 = .ok (.invokevirtual 47, 3) := by decide +kernel
theorem dX4_needWord_5 : decode cX4_needWord 5 = .ok (.ifCond .ne 16, 3) := by decide +kernel
theorem dX4_needWord_8 : decode cX4_needWord 8 = .ok (.aload_n 0, 1) := by decide +kernel
theorem dX4_needWord_9 : decode cX4_needWord 9 = .ok (.bipush (-2), 2) := by decide +kernel
theorem dX4_needWord_11 : decode cX4_needWord 11 = .ok (.aload_n 0, 1) := by decide +kernel
theorem dX4_needWord_12 : decode cX4_needWord 12 = .ok (.getfield 25, 3) := by decide +kernel
theorem dX4_needWord_15 : decode cX4_needWord 15 = .ok (.invokevirtual 78, 3) := by decide +kernel
theorem dX4_needWord_18 : decode cX4_needWord 18 = .ok (.ifCond .eq 7, 3) := by decide +kernel
theorem dX4_needWord_21 : decode cX4_needWord 21 = .ok (.iconst 1, 1) := by decide +kernel
theorem dX4_needWord_22 : decode cX4_needWord 22 = .ok (.goto 4, 3) := by decide +kernel
theorem dX4_needWord_25 : decode cX4_needWord 25 = .ok (.iconst 0, 1) := by decide +kernel
theorem dX4_needWord_26 : decode cX4_needWord 26 = .ok (.ireturn, 1) := by decide +kernel
theorem dX4_needName_0 : decode cX4_needName 0 = .ok (.aload_n 0, 1) := by decide +kernel
theorem dX4_needName_1 : decode cX4_needName 1 = .ok (.invokevirtual 153, 3) := by decide +kernel
theorem dX4_needName_4 : decode cX4_needName 4 = .ok (.aload_n 0, 1) := by decide +kernel
theorem dX4_needName_5 : decode cX4_needName 5 = .ok (.invokevirtual 156, 3) := by decide +kernel
theorem dX4_needName_8 : decode cX4_needName 8 = .ok (.istore_n 1, 1) := by decide +kernel
theorem dX4_needName_9 : decode cX4_needName 9 = .ok (.iload_n 1, 1) := by decide +kernel
theorem dX4_needName_10 : decode cX4_needName 10 = .ok (.aload_n 0, 1) := by decide +kernel
theorem dX4_needName_11 : decode cX4_needName 11 = .ok (.getfield 25, 3) := by decide +kernel
theorem dX4_needName_14 : decode cX4_needName 14 = .ok (.if_icmp .eq 14, 3) := by decide +kernel
theorem dX4_needName_17 : decode cX4_needName 17 = .ok (.iload_n 1, 1) := by decide +kernel
theorem dX4_needName_18 : decode cX4_needName 18 = .ok (.aload_n 0, 1) := by decide +kernel
theorem dX4_needName_19 : decode cX4_needName 19 = .ok (.getfield 25, 3) := by decide +kernel
theorem dX4_needName_22 : decode cX4_needName 22 = .ok (.isub, 1) := by decide +kernel
theorem dX4_needName_23 : decode cX4_needName 23 = .ok (.bipush 8, 2) := by decide +kernel
theorem dX4_needName_25 : decode cX4_needName 25 = .ok (.if_icmp .le 14, 3) := by decide +kernel
theorem dX4_needName_28 : decode cX4_needName 28 = .ok (.aload_n 0, 1) := by decide +kernel
theorem dX4_needName_29 : decode cX4_needName 29 = .ok (.bipush (-2), 2) := by decide +kernel
theorem dX4_needName_31 : decode cX4_needName 31 = .ok (.aload_n 0, 1) := by decide +kernel
theorem dX4_needName_32 : decode cX4_needName 32 = .ok (.getfield 25, 3) := by decide +kernel
theorem dX4_needName_35 : decode cX4_needName 35 = .ok (.invokevirtual 78, 3) := by decide +kernel
theorem dX4_needName_38 : decode cX4_needName 38 = .ok (.ireturn, 1) := by decide +kernel
theorem dX4_needName_39 : decode cX4_needName 39 = .ok (.aload_n 0, 1) := by decide +kernel
theorem dX4_needName_40 : decode cX4_needName 40 = .ok (.lconst 0, 1) := by decide +kernel
theorem dX4_needName_41 : decode cX4_needName 41 = .ok (.putfield 34, 3) := by decide +kernel
theorem dX4_needName_44 : decode cX4_needName 44 = .ok (.aload_n 0, 1) := by decide +kernel
theorem dX4_needName_45 : decode cX4_needName 45 = .ok (.getfield 25, 3) := by decide +kernel
theorem dX4_needName_48 : decode cX4_needName 48 = .ok (.istore_n 2, 1) := by decide +kernel
theorem dX4_needName_49 : decode cX4_needName 49 = .ok (.iload_n 2, 1) := by decide +kernel
theorem dX4_needName_50 : decode cX4_needName 50 = .ok (.iload_n 1, 1) := by decide +kernel
theorem dX4_needName_51 : decode cX4_needName 51 = .ok (.if_icmp .ge 26, 3) := by decide +kernel
theorem dX4_needName_54 : decode cX4_needName 54 = .ok (.aload_n 0, 1) := by decide +kernel
theorem dX4_needName_55 : decode cX4_needName 55 = .ok (.aload_n 0, 1) := by decide +kernel
theorem dX4_needName_56 : decode cX4_needName 56 = .ok (.getfield 34, 3) := by decide +kernel
theorem dX4_needName_59 : decode cX4_needName 59 = .ok (.aload_n 0, 1) := by decide +kernel
theorem dX4_needName_60 : decode cX4_needName 60 = .ok (.getfield 9, 3) := by decide +kernel
theorem dX4_needName_63 : decode cX4_needName 63 = .ok (.iload_n 2, 1) := by decide +kernel
theorem dX4_needName_64 : decode cX4_needName 64 = .ok (.baload, 1) := by decide +kernel
theorem dX4_needName_65 : decode cX4_needName 65 = .ok (.invokestatic 170, 3) := by decide +kernel
theorem dX4_needName_68 : decode cX4_needName 68 = .ok (.putfield 34, 3) := by decide +kernel
theorem dX4_needName_71 : decode cX4_needName 71 = .ok (.iinc 2 1, 3) := by decide +kernel
theorem dX4_needName_74 : decode cX4_needName 74 = .ok (.goto (-25), 3) := by decide +kernel
theorem dX4_needName_77 : decode cX4_needName 77 = .ok (.aload_n 0, 1) := by decide +kernel
theorem dX4_needName_78 : decode cX4_needName 78 = .ok (.aload_n 0, 1) := by decide +kernel
theorem dX4_needName_79 : decode cX4_needName 79 = .ok (.getfield 25, 3) := by decide +kernel
theorem dX4_needName_82 : decode cX4_needName 82 = .ok (.putfield 28, 3) := by decide +kernel
theorem dX4_needName_85 : decode cX4_needName 85 = .ok (.aload_n 0, 1) := by decide +kernel
theorem dX4_needName_86 : decode cX4_needName 86 = .ok (.iload_n 1, 1) := by decide +kernel
theorem dX4_needName_87 : decode cX4_needName 87 = .ok (.putfield 25, 3) := by decide +kernel
theorem dX4_needName_90 : decode cX4_needName 90 = .ok (.iconst 1, 1) := by decide +kernel
theorem dX4_needName_91 : decode cX4_needName 91 = .ok (.ireturn, 1) := by decide +kernel
theorem dX4_isDigitNext_0 : decode cX4_isDigitNext 0 = .ok (.aload_n 0, 1) := by decide +kernel
theorem dX4_isDigitNext_1 : decode cX4_isDigitNext 1 = .ok (.invokevirtual 153, 3) := by decide +kernel
theorem dX4_isDigitNext_4 : decode cX4_isDigitNext 4 = .ok (.aload_n 0, 1) := by decide +kernel
theorem dX4_isDigitNext_5 : decode cX4_isDigitNext 5 = .ok (.aload_n 0, 1) := by decide +kernel
theorem dX4_isDigitNext_6 : decode cX4_isDigitNext 6 = .ok (.getfield 25, 3) := by decide +kernel
theorem dX4_isDigitNext_9 : decode cX4_isDigitNext 9 = .ok (.invokevirtual 174, 3) := by decide +kernel
theorem dX4_isDigitNext_12 : decode cX4_isDigitNext 12 = .ok (.ireturn, 1) := by decide +kernel
theorem dX4_isDigitAt_0 : decode cX4_isDigitAt 0 = .ok (.iload_n 1, 1) := by decide +kernel
theorem dX4_isDigitAt_1 : decode cX4_isDigitAt 1 = .ok (.aload_n 0, 1) := by decide +kernel
theorem dX4_isDigitAt_2 : decode cX4_isDigitAt 2 = .ok (.getfield 15, 3) := by decide +kernel
theorem dX4_isDigitAt_5 : decode cX4_isDigitAt 5 = .ok (.if_icmp .ge 29, 3) := by decide +kernel
theorem dX4_isDigitAt_8 : decode cX4_isDigitAt 8 = .ok (.aload_n 0, 1) := by decide +kernel
theorem dX4_isDigitAt_9 : decode cX4_isDigitAt 9 = .ok (.getfield 9, 3) := by decide +kernel
theorem dX4_isDigitAt_12 : decode cX4_isDigitAt 12 = .ok (.iload_n 1, 1) := by decide +kernel
theorem dX4_isDigitAt_13 : decode cX4_isDigitAt 13 = .ok (.baload, 1) := by decide +kernel
theorem dX4_isDigitAt_14 : decode cX4_isDigitAt 14 = .ok (.bipush 48, 2) := by decide +kernel
theorem dX4_isDigitAt_16 : decode cX4_isDigitAt 16 = .ok (.if_icmp .lt 18, 3) := by decide +kernel
theorem dX4_isDigitAt_19 : decode cX4_isDigitAt 19 = .ok (.aload_n 0, 1) := by decide +kernel
theorem dX4_isDigitAt_20 : decode cX4_isDigitAt 20 = .ok (.getfield 9, 3) := by decide +kernel
theorem dX4_isDigitAt_23 : decode cX4_isDigitAt 23 = .ok (.iload_n 1, 1) := by decide +kernel
theorem dX4_isDigitAt_24 : decode cX4_isDigitAt 24 = .ok (.baload, 1) := by decide +kernel
theorem dX4_isDigitAt_25 : decode cX4_isDigitAt 25 = .ok (.bipush 57, 2) := by decide +kernel
theorem dX4_isDigitAt_27 : decode cX4_isDigitAt 27 = .ok (.if_icmp .gt 7, 3) := by decide +kernel
theorem dX4_isDigitAt_30 : decode cX4_isDigitAt 30 = .ok (.iconst 1, 1) := by decide +kernel
theorem dX4_isDigitAt_31 : decode cX4_isDigitAt 31 = .ok (.goto 4, 3) := by decide +kernel
theorem dX4_isDigitAt_34 : decode cX4_isDigitAt 34 = .ok (.iconst 0, 1) := by decide +kernel
theorem dX4_isDigitAt_35 : decode cX4_isDigitAt 35 = .ok (.ireturn, 1) := by decide +kernel
theorem dX4_needNumber_0 : decode cX4_needNumber 0 = .ok (.aload_n 0, 1) := by decide +kernel
theorem dX4_needNumber_1 : decode cX4_needNumber 1 = .ok (.invokevirtual 153, 3) := by decide +kernel
theorem dX4_needNumber_4 : decode cX4_needNumber 4 = .ok (.aload_n 0, 1) := by decide +kernel
theorem dX4_needNumber_5 : decode cX4_needNumber 5 = .ok (.aload_n 0, 1) := by decide +kernel
theorem dX4_needNumber_6 : decode cX4_needNumber 6 = .ok (.getfield 25, 3) := by decide +kernel
theorem dX4_needNumber_9 : decode cX4_needNumber 9 = .ok (.invokevirtual 174, 3) := by decide +kernel
theorem dX4_needNumber_12 : decode cX4_needNumber 12 = .ok (.ifCond .ne 14, 3) := by decide +kernel
theorem dX4_needNumber_15 : decode cX4_needNumber 15 = .ok (.aload_n 0, 1) := by decide +kernel
theorem dX4_needNumber_16 : decode cX4_needNumber 16 = .ok (.bipush (-2), 2) := by decide +kernel
theorem dX4_needNumber_18 : decode cX4_needNumber 18 = .ok (.aload_n 0, 1) := by decide +kernel
theorem dX4_needNumber_19 : decode cX4_needNumber 19 = .ok (.getfield 25, 3) := by decide +kernel
theorem dX4_needNumber_22 : decode cX4_needNumber 22 = .ok (.invokevirtual 78, 3) := by decide +kernel
theorem dX4_needNumber_25 : decode cX4_needNumber 25 = .ok (.ireturn, 1) := by decide +kernel
theorem dX4_needNumber_26 : decode cX4_needNumber 26 = .ok (.aload_n 0, 1) := by decide +kernel
theorem dX4_needNumber_27 : decode cX4_needNumber 27 = .ok (.aload_n 0, 1) := by decide +kernel
theorem dX4_needNumber_28 : decode cX4_needNumber 28 = .ok (.getfield 25, 3) := by decide +kernel
theorem dX4_needNumber_31 : decode cX4_needNumber 31 = .ok (.putfield 28, 3) := by decide +kernel
theorem dX4_needNumber_34 : decode cX4_needNumber 34 = .ok (.aload_n 0, 1) := by decide +kernel
theorem dX4_needNumber_35 : decode cX4_needNumber 35 = .ok (.iconst 0, 1) := by decide +kernel
theorem dX4_needNumber_36 : decode cX4_needNumber 36 = .ok (.putfield 31, 3) := by decide +kernel
theorem dX4_needNumber_39 : decode cX4_needNumber 39 = .ok (.aload_n 0, 1) := by decide +kernel
theorem dX4_needNumber_40 : decode cX4_needNumber 40 = .ok (.getfield 25, 3) := by decide +kernel
theorem dX4_needNumber_43 : decode cX4_needNumber 43 = .ok (.istore_n 3, 1) := by decide +kernel
theorem dX4_needNumber_44 : decode cX4_needNumber 44 = .ok (.iload_n 3, 1) := by decide +kernel
theorem dX4_needNumber_45 : decode cX4_needNumber 45 = .ok (.aload_n 0, 1) := by decide +kernel
theorem dX4_needNumber_46 : decode cX4_needNumber 46 = .ok (.getfield 15, 3) := by decide +kernel
theorem dX4_needNumber_49 : decode cX4_needNumber 49 = .ok (.if_icmp .ge 51, 3) := by decide +kernel
theorem dX4_needNumber_52 : decode cX4_needNumber 52 = .ok (.aload_n 0, 1) := by decide +kernel
theorem dX4_needNumber_53 : decode cX4_needNumber 53 = .ok (.iload_n 3, 1) := by decide +kernel
theorem dX4_needNumber_54 : decode cX4_needNumber 54 = .ok (.invokevirtual 174, 3) := by decide +kernel
theorem dX4_needNumber_57 : decode cX4_needNumber 57 = .ok (.ifCond .eq 43, 3) := by decide +kernel
theorem dX4_needNumber_60 : decode cX4_needNumber 60 = .ok (.aload_n 0, 1) := by decide +kernel
theorem dX4_needNumber_61 : decode cX4_needNumber 61 = .ok (.bipush 10, 2) := by decide +kernel
theorem dX4_needNumber_63 : decode cX4_needNumber 63 = .ok (.aload_n 0, 1) := by decide +kernel
theorem dX4_needNumber_64 : decode cX4_needNumber 64 = .ok (.getfield 31, 3) := by decide +kernel
theorem dX4_needNumber_67 : decode cX4_needNumber 67 = .ok (.imul, 1) := by decide +kernel
theorem dX4_needNumber_68 : decode cX4_needNumber 68 = .ok (.aload_n 0, 1) := by decide +kernel
theorem dX4_needNumber_69 : decode cX4_needNumber 69 = .ok (.getfield 9, 3) := by decide +kernel
theorem dX4_needNumber_72 : decode cX4_needNumber 72 = .ok (.iload_n 3, 1) := by decide +kernel
theorem dX4_needNumber_73 : decode cX4_needNumber 73 = .ok (.baload, 1) := by decide +kernel
theorem dX4_needNumber_74 : decode cX4_needNumber 74 = .ok (.iadd, 1) := by decide +kernel
theorem dX4_needNumber_75 : decode cX4_needNumber 75 = .ok (.bipush 48, 2) := by decide +kernel
theorem dX4_needNumber_77 : decode cX4_needNumber 77 = .ok (.isub, 1) := by decide +kernel
theorem dX4_needNumber_78 : decode cX4_needNumber 78 = .ok (.sipush 1000, 3) := by decide +kernel
theorem dX4_needNumber_81 : decode cX4_needNumber 81 = .ok (.invokestatic 178, 3) := by decide +kernel
theorem dX4_needNumber_84 : decode cX4_needNumber 84 = .ok (.putfield 31, 3) := by decide +kernel
theorem dX4_needNumber_87 : decode cX4_needNumber 87 = .ok (.aload_n 0, 1) := by decide +kernel
theorem dX4_needNumber_88 : decode cX4_needNumber 88 = .ok (.iload_n 3, 1) := by decide +kernel
theorem dX4_needNumber_89 : decode cX4_needNumber 89 = .ok (.iconst 1, 1) := by decide +kernel
theorem dX4_needNumber_90 : decode cX4_needNumber 90 = .ok (.iadd, 1) := by decide +kernel
theorem dX4_needNumber_91 : decode cX4_needNumber 91 = .ok (.putfield 25, 3) := by decide +kernel
theorem dX4_needNumber_94 : decode cX4_needNumber 94 = .ok (.iinc 3 1, 3) := by decide +kernel
theorem dX4_needNumber_97 : decode cX4_needNumber 97 = .ok (.goto (-53), 3) := by decide +kernel
theorem dX4_needNumber_100 : decode cX4_needNumber 100 = .ok (.aload_n 0, 1) := by decide +kernel
theorem dX4_needNumber_101 : decode cX4_needNumber 101 = .ok (.getfield 31, 3) := by decide +kernel
theorem dX4_needNumber_104 : decode cX4_needNumber 104 = .ok (.iload_n 1, 1) := by decide +kernel
theorem dX4_needNumber_105 : decode cX4_needNumber 105 = .ok (.if_icmp .lt 11, 3) := by decide +kernel
theorem dX4_needNumber_108 : decode cX4_needNumber 108 = .ok (.aload_n 0, 1) := by decide +kernel
theorem dX4_needNumber_109 : decode cX4_needNumber 109 = .ok (.getfield 31, 3) := by decide +kernel
theorem dX4_needNumber_112 : decode cX4_needNumber 112 = .ok (.iload_n 2, 1) := by decide +kernel
theorem dX4_needNumber_113 : decode cX4_needNumber 113 = .ok (.if_icmp .le 16, 3) := by decide +kernel
theorem dX4_needNumber_116 : decode cX4_needNumber 116 = .ok (.aload_n 0, 1) := by decide +kernel
theorem dX4_needNumber_117 : decode cX4_needNumber 117 = .ok (.bipush (-3), 2) := by decide +kernel
theorem dX4_needNumber_119 : decode cX4_needNumber 119 = .ok (.aload_n 0, 1) := by decide +kernel
theorem dX4_needNumber_120 : decode cX4_needNumber 120 = .ok (.getfield 28, 3) := by decide +kernel
theorem dX4_needNumber_123 : decode cX4_needNumber 123 = .ok (.invokevirtual 78, 3) := by decide +kernel
theorem dX4_needNumber_126 : decode cX4_needNumber 126 = .ok (.ifCond .eq 7, 3) := by decide +kernel
theorem dX4_needNumber_129 : decode cX4_needNumber 129 = .ok (.iconst 1, 1) := by decide +kernel
theorem dX4_needNumber_130 : decode cX4_needNumber 130 = .ok (.goto 4, 3) := by decide +kernel
theorem dX4_needNumber_133 : decode cX4_needNumber 133 = .ok (.iconst 0, 1) := by decide +kernel
theorem dX4_needNumber_134 : decode cX4_needNumber 134 = .ok (.ireturn, 1) := by decide +kernel
theorem dX4_needSemicolon_0 : decode cX4_needSemicolon 0 = .ok (.aload_n 0, 1) := by decide +kernel
theorem dX4_needSemicolon_1 : decode cX4_needSemicolon 1 = .ok (.invokevirtual 153, 3) := by decide +kernel
theorem dX4_needSemicolon_4 : decode cX4_needSemicolon 4 = .ok (.aload_n 0, 1) := by decide +kernel
theorem dX4_needSemicolon_5 : decode cX4_needSemicolon 5 = .ok (.getfield 25, 3) := by decide +kernel
theorem dX4_needSemicolon_8 : decode cX4_needSemicolon 8 = .ok (.aload_n 0, 1) := by decide +kernel
theorem dX4_needSemicolon_9 : decode cX4_needSemicolon 9 = .ok (.getfield 15, 3) := by decide +kernel
theorem dX4_needSemicolon_12 : decode cX4_needSemicolon 12 = .ok (.if_icmp .ge 17, 3) := by decide +kernel
theorem dX4_needSemicolon_15 : decode cX4_needSemicolon 15 = .ok (.aload_n 0, 1) := by decide +kernel
theorem dX4_needSemicolon_16 : decode cX4_needSemicolon 16 = .ok (.getfield 9, 3) := by decide +kernel
theorem dX4_needSemicolon_19 : decode cX4_needSemicolon 19 = .ok (.aload_n 0, 1) := by decide +kernel
theorem dX4_needSemicolon_20 : decode cX4_needSemicolon 20 = .ok (.getfield 25, 3) := by decide +kernel
theorem dX4_needSemicolon_23 : decode cX4_needSemicolon 23 = .ok (.baload, 1) := by decide +kernel
theorem dX4_needSemicolon_24 : decode cX4_needSemicolon 24 = .ok (.bipush 59, 2) := by decide +kernel
theorem dX4_needSemicolon_26 : decode cX4_needSemicolon 26 = .ok (.if_icmp .eq 14, 3) := by decide +kernel
theorem dX4_needSemicolon_29 : decode cX4_needSemicolon 29 = .ok (.aload_n 0, 1) := by decide +kernel
theorem dX4_needSemicolon_30 : decode cX4_needSemicolon 30 = .ok (.bipush (-2), 2) := by decide +kernel
theorem dX4_needSemicolon_32 : decode cX4_needSemicolon 32 = .ok (.aload_n 0, 1) := by decide +kernel
theorem dX4_needSemicolon_33 : decode cX4_needSemicolon 33 = .ok (.getfield 25, 3) := by decide +kernel
theorem dX4_needSemicolon_36 : decode cX4_needSemicolon 36 = .ok (.invokevirtual 78, 3) := by decide +kernel
theorem dX4_needSemicolon_39 : decode cX4_needSemicolon 39 = .ok (.ireturn, 1) := by decide +kernel
theorem dX4_needSemicolon_40 : decode cX4_needSemicolon 40 = .ok (.aload_n 0, 1) := by decide +kernel
theorem dX4_needSemicolon_41 : decode cX4_needSemicolon 41 = .ok (.dup, 1) := by decide +kernel
theorem dX4_needSemicolon_42 : decode cX4_needSemicolon 42 = .ok (.getfield 25, 3) := by decide +kernel
theorem dX4_needSemicolon_45 : decode cX4_needSemicolon 45 = .ok (.iconst 1, 1) := by decide +kernel
theorem dX4_needSemicolon_46 : decode cX4_needSemicolon 46 = .ok (.iadd, 1) := by decide +kernel
theorem dX4_needSemicolon_47 : decode cX4_needSemicolon 47 = .ok (.putfield 25, 3) := by decide +kernel
theorem dX4_needSemicolon_50 : decode cX4_needSemicolon 50 = .ok (.iconst 1, 1) := by decide +kernel
theorem dX4_needSemicolon_51 : decode cX4_needSemicolon 51 = .ok (.ireturn, 1) := by decide +kernel
theorem dX4_needEnd_0 : decode cX4_needEnd 0 = .ok (.aload_n 0, 1) := by decide +kernel
theorem dX4_needEnd_1 : decode cX4_needEnd 1 = .ok (.invokevirtual 153, 3) := by decide +kernel
theorem dX4_needEnd_4 : decode cX4_needEnd 4 = .ok (.aload_n 0, 1) := by decide +kernel
theorem dX4_needEnd_5 : decode cX4_needEnd 5 = .ok (.getfield 25, 3) := by decide +kernel
theorem dX4_needEnd_8 : decode cX4_needEnd 8 = .ok (.aload_n 0, 1) := by decide +kernel
theorem dX4_needEnd_9 : decode cX4_needEnd 9 = .ok (.getfield 15, 3) := by decide +kernel
theorem dX4_needEnd_12 : decode cX4_needEnd 12 = .ok (.if_icmp .ge 16, 3) := by decide +kernel
theorem dX4_needEnd_15 : decode cX4_needEnd 15 = .ok (.aload_n 0, 1) := by decide +kernel
theorem dX4_needEnd_16 : decode cX4_needEnd 16 = .ok (.bipush (-2), 2) := by decide +kernel
theorem dX4_needEnd_18 : decode cX4_needEnd 18 = .ok (.aload_n 0, 1) := by decide +kernel
theorem dX4_needEnd_19 : decode cX4_needEnd 19 = .ok (.getfield 25, 3) := by decide +kernel
theorem dX4_needEnd_22 : decode cX4_needEnd 22 = .ok (.invokevirtual 78, 3) := by decide +kernel
theorem dX4_needEnd_25 : decode cX4_needEnd 25 = .ok (.ifCond .eq 7, 3) := by decide +kernel
theorem dX4_needEnd_28 : decode cX4_needEnd 28 = .ok (.iconst 1, 1) := by decide +kernel
theorem dX4_needEnd_29 : decode cX4_needEnd 29 = .ok (.goto 4, 3) := by decide +kernel
theorem dX4_needEnd_32 : decode cX4_needEnd 32 = .ok (.iconst 0, 1) := by decide +kernel
theorem dX4_needEnd_33 : decode cX4_needEnd 33 = .ok (.ireturn, 1) := by decide +kernel
end
section
theorem dX5_init_0 : decode cX5_init 0 = .ok (.aload_n 0, 1) := by decide +kernel
theorem dX5_init_1 : decode cX5_init 1 = .ok (.invokespecial 3, 3) := by decide +kernel
theorem dX5_init_4 : decode cX5_init 4 = .ok (.aload_n 0, 1) := by decide +kernel
theorem dX5_init_5 : decode cX5_init 5 = .ok (.new 9, 3) := by decide +kernel
theorem dX5_init_8 : decode cX5_init 8 = .ok (.dup, 1) := by decide +kernel
theorem dX5_init_9 : decode cX5_init 9 = .ok (.invokespecial 11, 3) := by decide +kernel
theorem dX5_init_12 : decode cX5_init 12 = .ok (.putfield 12, 3) := by decide +kernel
theorem dX5_init_15 : decode cX5_init 15 = .ok (.aload_n 0, 1) := by decide +kernel
theorem dX5_init_16 : decode cX5_init 16 = .ok (.new 9, 3) := by decide +kernel
theorem dX5_init_19 : decode cX5_init 19 = .ok (.dup, 1) := by decide +kernel
theorem dX5_init_20 : decode cX5_init 20 = .ok (.invokespecial 11, 3) := by decide +kernel
theorem dX5_init_23 : decode cX5_init 23 = .ok (.putfield 16, 3) := by decide +kernel
theorem dX5_init_26 : decode cX5_init 26 = .ok (.aload_n 0, 1) := by decide +kernel
theorem dX5_init_27 : decode cX5_init 27 = .ok (.new 19, 3) := by decide +kernel
theorem dX5_init_30 : decode cX5_init 30 = .ok (.dup, 1) := by decide +kernel
theorem dX5_init_31 : decode cX5_init 31 = .ok (.invokespecial 21, 3) := by decide +kernel
theorem dX5_init_34 : decode cX5_init 34 = .ok (.putfield 22, 3) := by decide +kernel
theorem dX5_init_37 : decode cX5_init 37 = .ok (.aload_n 0, 1) := by decide +kernel
theorem dX5_init_38 : decode cX5_init 38 = .ok (.iconst 2, 1) := by decide +kernel
theorem dX5_init_39 : decode cX5_init 39 = .ok (.anewarray 9, 3) := by decide +kernel
theorem dX5_init_42 : decode cX5_init 42 = .ok (.putfield 26, 3) := by decide +kernel
theorem dX5_init_45 : decode cX5_init 45 = .ok (.aload_n 0, 1) := by decide +kernel
theorem dX5_init_46 : decode cX5_init 46 = .ok (.new 30, 3) := by decide +kernel
theorem dX5_init_49 : decode cX5_init 49 = .ok (.dup, 1) := by decide +kernel
theorem dX5_init_50 : decode cX5_init 50 = .ok (.invokespecial 32, 3) := by decide +kernel
theorem dX5_init_53 : decode cX5_init 53 = .ok (.putfield 33, 3) := by decide +kernel
theorem dX5_init_56 : decode cX5_init 56 = .ok (.aload_n 0, 1) := by decide +kernel
theorem dX5_init_57 : decode cX5_init 57 = .ok (.new 37, 3) := by decide +kernel
theorem dX5_init_60 : decode cX5_init 60 = .ok (.dup, 1) := by decide +kernel
theorem dX5_init_61 : decode cX5_init 61 = .ok (.invokespecial 39, 3) := by decide +kernel
theorem dX5_init_64 : decode cX5_init 64 = .ok (.putfield 40, 3) := by decide +kernel
theorem dX5_init_67 : decode cX5_init 67 = .ok (.aload_n 0, 1) := by decide +kernel
theorem dX5_init_68 : decode cX5_init 68 = .ok (.getfield 12, 3) := by decide +kernel
theorem dX5_init_71 : decode cX5_init 71 = .ok (.iconst 4, 1) := by decide +kernel
theorem dX5_init_72 : decode cX5_init 72 = .ok (.invokevirtual 44, 3) := by decide +kernel
theorem dX5_init_75 : decode cX5_init 75 = .ok (.aload_n 0, 1) := by decide +kernel
theorem dX5_init_76 : decode cX5_init 76 = .ok (.getfield 12, 3) := by decide +kernel
theorem dX5_init_79 : decode cX5_init 79 = .ok (.lconst 0, 1) := by decide +kernel
theorem dX5_init_80 : decode cX5_init 80 = .ok (.bipush 97, 2) := by decide +kernel
theorem dX5_init_82 : decode cX5_init 82 = .ok (.invokestatic 48, 3) := by decide +kernel
theorem dX5_init_85 : decode cX5_init 85 = .ok (.iconst 1, 1) := by decide +kernel
theorem dX5_init_86 : decode cX5_init 86 = .ok (.invokevirtual 54, 3) := by decide +kernel
theorem dX5_init_89 : decode cX5_init 89 = .ok (.aload_n 0, 1) := by decide +kernel
theorem dX5_init_90 : decode cX5_init 90 = .ok (.getfield 12, 3) := by decide +kernel
theorem dX5_init_93 : decode cX5_init 93 = .ok (.lconst 0, 1) := by decide +kernel
theorem dX5_init_94 : decode cX5_init 94 = .ok (.bipush 98, 2) := by decide +kernel
theorem dX5_init_96 : decode cX5_init 96 = .ok (.invokestatic 48, 3) := by decide +kernel
theorem dX5_init_99 : decode cX5_init 99 = .ok (.iconst 1, 1) := by decide +kernel
theorem dX5_init_100 : decode cX5_init 100 = .ok (.invokevirtual 54, 3) := by decide +kernel
theorem dX5_init_103 : decode cX5_init 103 = .ok (.return_, 1) := by decide +kernel
theorem dX5_append_0 : decode cX5_append 0 = .ok (.iload_n 1, 1) := by decide +kernel
theorem dX5_append_1 : decode cX5_append 1 = .ok (.invokestatic 58, 3) := by decide +kernel
theorem dX5_append_4 : decode cX5_append 4 = .ok (.iload_n 2, 1) := by decide +kernel
theorem dX5_append_5 : decode cX5_append 5 = .ok (.invokestatic 58, 3) := by decide +kernel
theorem dX5_append_8 : decode cX5_append 8 = .ok (.iadd, 1) := by decide +kernel
theorem dX5_append_9 : decode cX5_append 9 = .ok (.iload_n 3, 1) := by decide +kernel
theorem dX5_append_10 : decode cX5_append 10 = .ok (.invokestatic 58, 3) := by decide +kernel
theorem dX5_append_13 : decode cX5_append 13 = .ok (.iadd, 1) := by decide +kernel
theorem dX5_append_14 : decode cX5_append 14 = .ok (.iload 4, 2) := by decide +kernel
theorem dX5_append_16 : decode cX5_append 16 = .ok (.invokestatic 58, 3) := by decide +kernel
theorem dX5_append_19 : decode cX5_append 19 = .ok (.iadd, 1) := by decide +kernel
theorem dX5_append_20 : decode cX5_append 20 = .ok (.iload 5, 2) := by decide +kernel
theorem dX5_append_22 : decode cX5_append 22 = .ok (.invokestatic 58, 3) := by decide +kernel
theorem dX5_append_25 : decode cX5_append 25 = .ok (.iadd, 1) := by decide +kernel
theorem dX5_append_26 : decode cX5_append 26 = .ok (.istore 6, 2) := by decide +kernel
theorem dX5_append_28 : decode cX5_append 28 = .ok (.aload_n 0, 1) := by decide +kernel
theorem dX5_append_29 : decode cX5_append 29 = .ok (.getfield 33, 3) := by decide +kernel
theorem dX5_append_32 : decode cX5_append 32 = .ok (.getfield 62, 3) := by decide +kernel
theorem dX5_append_35 : decode cX5_append 35 = .ok (.iload 6, 2) := by decide +kernel
theorem dX5_append_37 : decode cX5_append 37 = .ok (.iadd, 1) := by decide +kernel
theorem dX5_append_38 : decode cX5_append 38 = .ok (.sipush 600, 3) := by decide +kernel
theorem dX5_append_41 : decode cX5_append 41 = .ok (.if_icmp .le 13, 3) := by decide +kernel
theorem dX5_append_44 : decode cX5_append 44 = .ok (.new 66, 3) := by decide +kernel
theorem dX5_append_47 : decode cX5_append 47 = .ok (.dup, 1) := by decide +kernel
theorem dX5_append_48 : decode cX5_append 48 = .ok (.ldc 68, 2) := by decide +kernel
theorem dX5_append_50 : decode cX5_append 50 = .ok (.invokespecial 70, 3) := by decide +kernel
theorem dX5_append_53 : decode cX5_append 53 = .ok (.athrow, 1) := by decide +kernel
theorem dX5_append_54 : decode cX5_append 54 = .ok (.aload_n 0, 1) := by decide +kernel
theorem dX5_append_55 : decode cX5_append 55 = .ok (.getfield 33, 3) := by decide +kernel
theorem dX5_append_58 : decode cX5_append 58 = .ok (.iload_n 1, 1) := by decide +kernel
theorem dX5_append_59 : decode cX5_append 59 = .ok (.invokevirtual 73, 3) := by decide +kernel
theorem dX5_append_62 : decode cX5_append 62 = .ok (.aload_n 0, 1) := by decide +kernel
theorem dX5_append_63 : decode cX5_append 63 = .ok (.getfield 33, 3) := by decide +kernel
theorem dX5_append_66 : decode cX5_append 66 = .ok (.iload_n 2, 1) := by decide +kernel
theorem dX5_append_67 : decode cX5_append 67 = .ok (.invokevirtual 73, 3) := by decide +kernel
theorem dX5_append_70 : decode cX5_append 70 = .ok (.aload_n 0, 1) := by decide +kernel
theorem dX5_append_71 : decode cX5_append 71 = .ok (.getfield 33, 3) := by decide +kernel
theorem dX5_append_74 : decode cX5_append 74 = .ok (.iload_n 3, 1) := by decide +kernel
theorem dX5_append_75 : decode cX5_append 75 = .ok (.invokevirtual 73, 3) := by decide +kernel
theorem dX5_append_78 : decode cX5_append 78 = .ok (.aload_n 0, 1) := by decide +kernel
theorem dX5_append_79 : decode cX5_append 79 = .ok (.getfield 33, 3) := by decide +kernel
theorem dX5_append_82 : decode cX5_append 82 = .ok (.iload 4, 2) := by decide +kernel
theorem dX5_append_84 : decode cX5_append 84 = .ok (.invokevirtual 73, 3) := by decide +kernel
theorem dX5_append_87 : decode cX5_append 87 = .ok (.aload_n 0, 1) := by decide +kernel
theorem dX5_append_88 : decode cX5_append 88 = .ok (.getfield 33, 3) := by decide +kernel
theorem dX5_append_91 : decode cX5_append 91 = .ok (.iload 5, 2) := by decide +kernel
theorem dX5_append_93 : decode cX5_append 93 = .ok (.invokevirtual 73, 3) := by decide +kernel
theorem dX5_append_96 : decode cX5_append 96 = .ok (.aload_n 0, 1) := by decide +kernel
theorem dX5_append_97 : decode cX5_append 97 = .ok (.getfield 33, 3) := by decide +kernel
theorem dX5_append_100 : decode cX5_append 100 = .ok (.getfield 62, 3) := by decide +kernel
theorem dX5_append_103 : decode cX5_append 103 = .ok (.ireturn, 1) := by decide +kernel
theorem dX5_load_0 : decode cX5_load 0 = .ok (.aload_n 0, 1) := by decide +kernel
theorem dX5_load_1 : decode cX5_load 1 = .ok (.getfield 33, 3) := by decide +kernel
theorem dX5_load_4 : decode cX5_load 4 = .ok (.aload_n 0, 1) := by decide +kernel
theorem dX5_load_5 : decode cX5_load 5 = .ok (.getfield 16, 3) := by decide +kernel
theorem dX5_load_8 : decode cX5_load 8 = .ok (.invokevirtual 76, 3) := by decide +kernel
theorem dX5_load_11 : decode cX5_load 11 = .ok (.ifCond .ne 11, 3) := by decide +kernel
theorem dX5_load_14 : decode cX5_load 14 = .ok (.aload_n 0, 1) := by decide +kernel
theorem dX5_load_15 : decode cX5_load 15 = .ok (.getfield 33, 3) := by decide +kernel
theorem dX5_load_18 : decode cX5_load 18 = .ok (.getfield 80, 3) := by decide +kernel
theorem dX5_load_21 : decode cX5_load 21 = .ok (.ireturn, 1) := by decide +kernel
theorem dX5_load_22 : decode cX5_load 22 = .ok (.aload_n 0, 1) := by decide +kernel
theorem dX5_load_23 : decode cX5_load 23 = .ok (.getfield 22, 3) := by decide +kernel
theorem dX5_load_26 : decode cX5_load 26 = .ok (.aload_n 0, 1) := by decide +kernel
theorem dX5_load_27 : decode cX5_load 27 = .ok (.getfield 12, 3) := by decide +kernel
theorem dX5_load_30 : decode cX5_load 30 = .ok (.invokevirtual 83, 3) := by decide +kernel
theorem dX5_load_33 : decode cX5_load 33 = .ok (.aload_n 0, 1) := by decide +kernel
theorem dX5_load_34 : decode cX5_load 34 = .ok (.getfield 12, 3) := by decide +kernel
theorem dX5_load_37 : decode cX5_load 37 = .ok (.aload_n 0, 1) := by decide +kernel
theorem dX5_load_38 : decode cX5_load 38 = .ok (.getfield 16, 3) := by decide +kernel
theorem dX5_load_41 : decode cX5_load 41 = .ok (.invokevirtual 87, 3) := by decide +kernel
theorem dX5_load_44 : decode cX5_load 44 = .ok (.aload_n 0, 1) := by decide +kernel
theorem dX5_load_45 : decode cX5_load 45 = .ok (.getfield 12, 3) := by decide +kernel
theorem dX5_load_48 : decode cX5_load 48 = .ok (.getfield 90, 3) := by decide +kernel
theorem dX5_load_51 : decode cX5_load 51 = .ok (.ireturn, 1) := by decide +kernel
theorem dX5_errorPosition_0 : decode cX5_errorPosition 0 = .ok (.aload_n 0, 1) := by decide +kernel
theorem dX5_errorPosition_1 : decode cX5_errorPosition 1 = .ok (.getfield 33, 3) := by decide +kernel
theorem dX5_errorPosition_4 : decode cX5_errorPosition 4 = .ok (.getfield 93, 3) := by decide +kernel
theorem dX5_errorPosition_7 : decode cX5_errorPosition 7 = .ok (.ireturn, 1) := by decide +kernel
theorem dX5_count_0 : decode cX5_count 0 = .ok (.iload_n 1, 1) := by decide +kernel
theorem dX5_count_1 : decode cX5_count 1 = .ok (.tableswitch 147 0 10 #[59, 67, 75, 83, 91, 99, 107, 115, 123, 131, 139], 59) := by decide +kernel
theorem dX5_count_60 : decode cX5_count 60 = .ok (.aload_n 0, 1) := by decide +kernel
theorem dX5_count_61 : decode cX5_count 61 = .ok (.getfield 12, 3) := by decide +kernel
theorem dX5_count_64 : decode cX5_count 64 = .ok (.getfield 96, 3) := by decide +kernel
theorem dX5_count_67 : decode cX5_count 67 = .ok (.ireturn, 1) := by decide +kernel
theorem dX5_count_68 : decode cX5_count 68 = .ok (.aload_n 0, 1) := by decide +kernel
theorem dX5_count_69 : decode cX5_count 69 = .ok (.getfield 12, 3) := by decide +kernel
theorem dX5_count_72 : decode cX5_count 72 = .ok (.getfield 99, 3) := by decide +kernel
theorem dX5_count_75 : decode cX5_count 75 = .ok (.ireturn, 1) := by decide +kernel
theorem dX5_count_76 : decode cX5_count 76 = .ok (.aload_n 0, 1) := by decide +kernel
theorem dX5_count_77 : decode cX5_count 77 = .ok (.getfield 12, 3) := by decide +kernel
theorem dX5_count_80 : decode cX5_count 80 = .ok (.getfield 90, 3) := by decide +kernel
theorem dX5_count_83 : decode cX5_count 83 = .ok (.ireturn, 1) := by decide +kernel
theorem dX5_count_84 : decode cX5_count 84 = .ok (.aload_n 0, 1) := by decide +kernel
theorem dX5_count_85 : decode cX5_count 85 = .ok (.getfield 12, 3) := by decide +kernel
theorem dX5_count_88 : decode cX5_count 88 = .ok (.invokevirtual 102, 3) := by decide +kernel
theorem dX5_count_91 : decode cX5_count 91 = .ok (.ireturn, 1) := by decide +kernel
theorem dX5_count_92 : decode cX5_count 92 = .ok (.aload_n 0, 1) := by decide +kernel
theorem dX5_count_93 : decode cX5_count 93 = .ok (.getfield 12, 3) := by decide +kernel
theorem dX5_count_96 : decode cX5_count 96 = .ok (.invokevirtual 106, 3) := by decide +kernel
theorem dX5_count_99 : decode cX5_count 99 = .ok (.ireturn, 1) := by decide +kernel
theorem dX5_count_100 : decode cX5_count 100 = .ok (.aload_n 0, 1) := by decide +kernel
theorem dX5_count_101 : decode cX5_count 101 = .ok (.getfield 12, 3) := by decide +kernel
theorem dX5_count_104 : decode cX5_count 104 = .ok (.invokevirtual 109, 3) := by decide +kernel
theorem dX5_count_107 : decode cX5_count 107 = .ok (.ireturn, 1) := by decide +kernel
theorem dX5_count_108 : decode cX5_count 108 = .ok (.aload_n 0, 1) := by decide +kernel
theorem dX5_count_109 : decode cX5_count 109 = .ok (.getfield 12, 3) := by decide +kernel
theorem dX5_count_112 : decode cX5_count 112 = .ok (.invokevirtual 112, 3) := by decide +kernel
theorem dX5_count_115 : decode cX5_count 115 = .ok (.ireturn, 1) := by decide +kernel
theorem dX5_count_116 : decode cX5_count 116 = .ok (.aload_n 0, 1) := by decide +kernel
theorem dX5_count_117 : decode cX5_count 117 = .ok (.getfield 12, 3) := by decide +kernel
theorem dX5_count_120 : decode cX5_count 120 = .ok (.invokevirtual 115, 3) := by decide +kernel
theorem dX5_count_123 : decode cX5_count 123 = .ok (.ireturn, 1) := by decide +kernel
theorem dX5_count_124 : decode cX5_count 124 = .ok (.aload_n 0, 1) := by decide +kernel
theorem dX5_count_125 : decode cX5_count 125 = .ok (.getfield 12, 3) := by decide +kernel
theorem dX5_count_128 : decode cX5_count 128 = .ok (.getfield 118, 3) := by decide +kernel
theorem dX5_count_131 : decode cX5_count 131 = .ok (.ireturn, 1) := by decide +kernel
theorem dX5_count_132 : decode cX5_count 132 = .ok (.aload_n 0, 1) := by decide +kernel
theorem dX5_count_133 : decode cX5_count 133 = .ok (.getfield 12, 3) := by decide +kernel
theorem dX5_count_136 : decode cX5_count 136 = .ok (.getfield 121, 3) := by decide +kernel
theorem dX5_count_139 : decode cX5_count 139 = .ok (.ireturn, 1) := by decide +kernel
theorem dX5_count_140 : decode cX5_count 140 = .ok (.aload_n 0, 1) := by decide +kernel
theorem dX5_count_141 : decode cX5_count 141 = .ok (.getfield 12, 3) := by decide +kernel
theorem dX5_count_144 : decode cX5_count 144 = .ok (.invokevirtual 124, 3) := by decide +kernel
theorem dX5_count_147 : decode cX5_count 147 = .ok (.ireturn, 1) := by decide +kernel
theorem dX5_count_148 : decode cX5_count 148 = .ok (.new 127, 3) := by decide +kernel
theorem dX5_count_151 : decode cX5_count 151 = .ok (.dup, 1) := by decide +kernel
theorem dX5_count_152 : decode cX5_count 152 = .ok (.ldc 129, 2) := by decide +kernel
theorem dX5_count_154 : decode cX5_count 154 = .ok (.invokespecial 131, 3) := by decide +kernel
theorem dX5_count_157 : decode cX5_count 157 = .ok (.athrow, 1) := by decide +kernel
theorem dX5_family_0 : decode cX5_family 0 = .ok (.aload_n 0, 1) := by decide +kernel
theorem dX5_family_1 : decode cX5_family 1 = .ok (.iload_n 1, 1) := by decide +kernel
theorem dX5_family_2 : decode cX5_family 2 = .ok (.invokevirtual 132, 3) := by decide +kernel
theorem dX5_family_5 : decode cX5_family 5 = .ok (.iload_n 2, 1) := by decide +kernel
theorem dX5_family_6 : decode cX5_family 6 = .ok (.tableswitch 110 0 6 #[42, 52, 62, 71, 81, 91, 100], 42) := by decide +kernel
theorem dX5_family_48 : decode cX5_family 48 = .ok (.aload_n 0, 1) := by decide +kernel
theorem dX5_family_49 : decode cX5_family 49 = .ok (.getfield 12, 3) := by decide +kernel
theorem dX5_family_52 : decode cX5_family 52 = .ok (.getfield 135, 3) := by decide +kernel
theorem dX5_family_55 : decode cX5_family 55 = .ok (.iload_n 1, 1) := by decide +kernel
theorem dX5_family_56 : decode cX5_family 56 = .ok (.iaload, 1) := by decide +kernel
theorem dX5_family_57 : decode cX5_family 57 = .ok (.ireturn, 1) := by decide +kernel
theorem dX5_family_58 : decode cX5_family 58 = .ok (.aload_n 0, 1) := by decide +kernel
theorem dX5_family_59 : decode cX5_family 59 = .ok (.getfield 12, 3) := by decide +kernel
theorem dX5_family_62 : decode cX5_family 62 = .ok (.getfield 139, 3) := by decide +kernel
theorem dX5_family_65 : decode cX5_family 65 = .ok (.iload_n 1, 1) := by decide +kernel
theorem dX5_family_66 : decode cX5_family 66 = .ok (.iaload, 1) := by decide +kernel
theorem dX5_family_67 : decode cX5_family 67 = .ok (.ireturn, 1) := by decide +kernel
theorem dX5_family_68 : decode cX5_family 68 = .ok (.aload_n 0, 1) := by decide +kernel
theorem dX5_family_69 : decode cX5_family 69 = .ok (.getfield 12, 3) := by decide +kernel
theorem dX5_family_72 : decode cX5_family 72 = .ok (.iload_n 1, 1) := by decide +kernel
theorem dX5_family_73 : decode cX5_family 73 = .ok (.invokevirtual 142, 3) := by decide +kernel
theorem dX5_family_76 : decode cX5_family 76 = .ok (.ireturn, 1) := by decide +kernel
theorem dX5_family_77 : decode cX5_family 77 = .ok (.aload_n 0, 1) := by decide +kernel
theorem dX5_family_78 : decode cX5_family 78 = .ok (.getfield 12, 3) := by decide +kernel
theorem dX5_family_81 : decode cX5_family 81 = .ok (.getfield 145, 3) := by decide +kernel
theorem dX5_family_84 : decode cX5_family 84 = .ok (.iload_n 1, 1) := by decide +kernel
theorem dX5_family_85 : decode cX5_family 85 = .ok (.iaload, 1) := by decide +kernel
theorem dX5_family_86 : decode cX5_family 86 = .ok (.ireturn, 1) := by decide +kernel
theorem dX5_family_87 : decode cX5_family 87 = .ok (.aload_n 0, 1) := by decide +kernel
theorem dX5_family_88 : decode cX5_family 88 = .ok (.getfield 12, 3) := by decide +kernel
theorem dX5_family_91 : decode cX5_family 91 = .ok (.getfield 148, 3) := by decide +kernel
theorem dX5_family_94 : decode cX5_family 94 = .ok (.iload_n 1, 1) := by decide +kernel
theorem dX5_family_95 : decode cX5_family 95 = .ok (.iaload, 1) := by decide +kernel
theorem dX5_family_96 : decode cX5_family 96 = .ok (.ireturn, 1) := by decide +kernel
theorem dX5_family_97 : decode cX5_family 97 = .ok (.aload_n 0, 1) := by decide +kernel
theorem dX5_family_98 : decode cX5_family 98 = .ok (.getfield 12, 3) := by decide +kernel
theorem dX5_family_101 : decode cX5_family 101 = .ok (.iload_n 1, 1) := by decide +kernel
theorem dX5_family_102 : decode cX5_family 102 = .ok (.invokevirtual 151, 3) := by decide +kernel
theorem dX5_family_105 : decode cX5_family 105 = .ok (.ireturn, 1) := by decide +kernel
theorem dX5_family_106 : decode cX5_family 106 = .ok (.aload_n 0, 1) := by decide +kernel
theorem dX5_family_107 : decode cX5_family 107 = .ok (.getfield 12, 3) := by decide +kernel
theorem dX5_family_110 : decode cX5_family 110 = .ok (.getfield 154, 3) := by decide +kernel
theorem dX5_family_113 : decode cX5_family 113 = .ok (.iload_n 1, 1) := by decide +kernel
theorem dX5_family_114 : decode cX5_family 114 = .ok (.iaload, 1) := by decide +kernel
theorem dX5_family_115 : decode cX5_family 115 = .ok (.ireturn, 1) := by decide +kernel
theorem dX5_family_116 : decode cX5_family 116 = .ok (.new 127, 3) := by decide +kernel
theorem dX5_family_119 : decode cX5_family 119 = .ok (.dup, 1) := by decide +kernel
theorem dX5_family_120 : decode cX5_family 120 = .ok (.ldc 157, 2) := by decide +kernel
theorem dX5_family_122 : decode cX5_family 122 = .ok (.invokespecial 131, 3) := by decide +kernel
theorem dX5_family_125 : decode cX5_family 125 = .ok (.athrow, 1) := by decide +kernel
theorem dX5_picture_0 : decode cX5_picture 0 = .ok (.aload_n 0, 1) := by decide +kernel
theorem dX5_picture_1 : decode cX5_picture 1 = .ok (.iload_n 1, 1) := by decide +kernel
theorem dX5_picture_2 : decode cX5_picture 2 = .ok (.invokevirtual 159, 3) := by decide +kernel
theorem dX5_picture_5 : decode cX5_picture 5 = .ok (.iload_n 2, 1) := by decide +kernel
theorem dX5_picture_6 : decode cX5_picture 6 = .ok (.tableswitch 111 0 5 #[38, 48, 58, 68, 77, 94], 38) := by decide +kernel
theorem dX5_picture_44 : decode cX5_picture 44 = .ok (.aload_n 0, 1) := by decide +kernel
theorem dX5_picture_45 : decode cX5_picture 45 = .ok (.getfield 12, 3) := by decide +kernel
theorem dX5_picture_48 : decode cX5_picture 48 = .ok (.getfield 162, 3) := by decide +kernel
theorem dX5_picture_51 : decode cX5_picture 51 = .ok (.iload_n 1, 1) := by decide +kernel
theorem dX5_picture_52 : decode cX5_picture 52 = .ok (.iaload, 1) := by decide +kernel
theorem dX5_picture_53 : decode cX5_picture 53 = .ok (.ireturn, 1) := by decide +kernel
theorem dX5_picture_54 : decode cX5_picture 54 = .ok (.aload_n 0, 1) := by decide +kernel
theorem dX5_picture_55 : decode cX5_picture 55 = .ok (.getfield 12, 3) := by decide +kernel
theorem dX5_picture_58 : decode cX5_picture 58 = .ok (.getfield 165, 3) := by decide +kernel
theorem dX5_picture_61 : decode cX5_picture 61 = .ok (.iload_n 1, 1) := by decide +kernel
theorem dX5_picture_62 : decode cX5_picture 62 = .ok (.iaload, 1) := by decide +kernel
theorem dX5_picture_63 : decode cX5_picture 63 = .ok (.ireturn, 1) := by decide +kernel
theorem dX5_picture_64 : decode cX5_picture 64 = .ok (.aload_n 0, 1) := by decide +kernel
theorem dX5_picture_65 : decode cX5_picture 65 = .ok (.getfield 12, 3) := by decide +kernel
theorem dX5_picture_68 : decode cX5_picture 68 = .ok (.getfield 168, 3) := by decide +kernel
theorem dX5_picture_71 : decode cX5_picture 71 = .ok (.iload_n 1, 1) := by decide +kernel
theorem dX5_picture_72 : decode cX5_picture 72 = .ok (.iaload, 1) := by decide +kernel
theorem dX5_picture_73 : decode cX5_picture 73 = .ok (.ireturn, 1) := by decide +kernel
theorem dX5_picture_74 : decode cX5_picture 74 = .ok (.aload_n 0, 1) := by decide +kernel
theorem dX5_picture_75 : decode cX5_picture 75 = .ok (.getfield 12, 3) := by decide +kernel
theorem dX5_picture_78 : decode cX5_picture 78 = .ok (.iload_n 1, 1) := by decide +kernel
theorem dX5_picture_79 : decode cX5_picture 79 = .ok (.invokevirtual 171, 3) := by decide +kernel
theorem dX5_picture_82 : decode cX5_picture 82 = .ok (.ireturn, 1) := by decide +kernel
theorem dX5_picture_83 : decode cX5_picture 83 = .ok (.aload_n 0, 1) := by decide +kernel
theorem dX5_picture_84 : decode cX5_picture 84 = .ok (.getfield 12, 3) := by decide +kernel
theorem dX5_picture_87 : decode cX5_picture 87 = .ok (.iload_n 1, 1) := by decide +kernel
theorem dX5_picture_88 : decode cX5_picture 88 = .ok (.invokevirtual 174, 3) := by decide +kernel
theorem dX5_picture_91 : decode cX5_picture 91 = .ok (.ifCond .eq 7, 3) := by decide +kernel
theorem dX5_picture_94 : decode cX5_picture 94 = .ok (.iconst 1, 1) := by decide +kernel
theorem dX5_picture_95 : decode cX5_picture 95 = .ok (.goto 4, 3) := by decide +kernel
theorem dX5_picture_98 : decode cX5_picture 98 = .ok (.iconst 0, 1) := by decide +kernel
theorem dX5_picture_99 : decode cX5_picture 99 = .ok (.ireturn, 1) := by decide +kernel
theorem dX5_picture_100 : decode cX5_picture 100 = .ok (.aload_n 0, 1) := by decide +kernel
theorem dX5_picture_101 : decode cX5_picture 101 = .ok (.getfield 12, 3) := by decide +kernel
theorem dX5_picture_104 : decode cX5_picture 104 = .ok (.iload_n 1, 1) := by decide +kernel
theorem dX5_picture_105 : decode cX5_picture 105 = .ok (.invokevirtual 178, 3) := by decide +kernel
theorem dX5_picture_108 : decode cX5_picture 108 = .ok (.ifCond .eq 7, 3) := by decide +kernel
theorem dX5_picture_111 : decode cX5_picture 111 = .ok (.iconst 1, 1) := by decide +kernel
theorem dX5_picture_112 : decode cX5_picture 112 = .ok (.goto 4, 3) := by decide +kernel
theorem dX5_picture_115 : decode cX5_picture 115 = .ok (.iconst 0, 1) := by decide +kernel
theorem dX5_picture_116 : decode cX5_picture 116 = .ok (.ireturn, 1) := by decide +kernel
theorem dX5_picture_117 : decode cX5_picture 117 = .ok (.new 127, 3) := by decide +kernel
theorem dX5_picture_120 : decode cX5_picture 120 = .ok (.dup, 1) := by decide +kernel
theorem dX5_picture_121 : decode cX5_picture 121 = .ok (.ldc 181, 2) := by decide +kernel
theorem dX5_picture_123 : decode cX5_picture 123 = .ok (.invokespecial 131, 3) := by decide +kernel
theorem dX5_picture_126 : decode cX5_picture 126 = .ok (.athrow, 1) := by decide +kernel
theorem dX5_copy_0 : decode cX5_copy 0 = .ok (.aload_n 0, 1) := by decide +kernel
theorem dX5_copy_1 : decode cX5_copy 1 = .ok (.iload_n 1, 1) := by decide +kernel
theorem dX5_copy_2 : decode cX5_copy 2 = .ok (.iload_n 2, 1) := by decide +kernel
theorem dX5_copy_3 : decode cX5_copy 3 = .ok (.invokevirtual 183, 3) := by decide +kernel
theorem dX5_copy_6 : decode cX5_copy 6 = .ok (.aload_n 0, 1) := by decide +kernel
theorem dX5_copy_7 : decode cX5_copy 7 = .ok (.getfield 12, 3) := by decide +kernel
theorem dX5_copy_10 : decode cX5_copy 10 = .ok (.iload_n 1, 1) := by decide +kernel
theorem dX5_copy_11 : decode cX5_copy 11 = .ok (.iload_n 2, 1) := by decide +kernel
theorem dX5_copy_12 : decode cX5_copy 12 = .ok (.invokevirtual 187, 3) := by decide +kernel
theorem dX5_copy_15 : decode cX5_copy 15 = .ok (.ifCond .eq 15, 3) := by decide +kernel
theorem dX5_copy_18 : decode cX5_copy 18 = .ok (.aload_n 0, 1) := by decide +kernel
theorem dX5_copy_19 : decode cX5_copy 19 = .ok (.getfield 12, 3) := by decide +kernel
theorem dX5_copy_22 : decode cX5_copy 22 = .ok (.iload_n 1, 1) := by decide +kernel
theorem dX5_copy_23 : decode cX5_copy 23 = .ok (.iload_n 2, 1) := by decide +kernel
theorem dX5_copy_24 : decode cX5_copy 24 = .ok (.invokevirtual 191, 3) := by decide +kernel
theorem dX5_copy_27 : decode cX5_copy 27 = .ok (.goto 4, 3) := by decide +kernel
theorem dX5_copy_30 : decode cX5_copy 30 = .ok (.iconst (-1), 1) := by decide +kernel
theorem dX5_copy_31 : decode cX5_copy 31 = .ok (.ireturn, 1) := by decide +kernel
theorem dX5_why_0 : decode cX5_why 0 = .ok (.aload_n 0, 1) := by decide +kernel
theorem dX5_why_1 : decode cX5_why 1 = .ok (.iload_n 1, 1) := by decide +kernel
theorem dX5_why_2 : decode cX5_why 2 = .ok (.iload_n 2, 1) := by decide +kernel
theorem dX5_why_3 : decode cX5_why 3 = .ok (.invokevirtual 183, 3) := by decide +kernel
theorem dX5_why_6 : decode cX5_why 6 = .ok (.aload_n 0, 1) := by decide +kernel
theorem dX5_why_7 : decode cX5_why 7 = .ok (.getfield 12, 3) := by decide +kernel
theorem dX5_why_10 : decode cX5_why 10 = .ok (.iload_n 1, 1) := by decide +kernel
theorem dX5_why_11 : decode cX5_why 11 = .ok (.iload_n 2, 1) := by decide +kernel
theorem dX5_why_12 : decode cX5_why 12 = .ok (.invokevirtual 187, 3) := by decide +kernel
theorem dX5_why_15 : decode cX5_why 15 = .ok (.ifCond .ne 5, 3) := by decide +kernel
theorem dX5_why_18 : decode cX5_why 18 = .ok (.iconst 1, 1) := by decide +kernel
theorem dX5_why_19 : decode cX5_why 19 = .ok (.ireturn, 1) := by decide +kernel
theorem dX5_why_20 : decode cX5_why 20 = .ok (.aload_n 0, 1) := by decide +kernel
theorem dX5_why_21 : decode cX5_why 21 = .ok (.getfield 12, 3) := by decide +kernel
theorem dX5_why_24 : decode cX5_why 24 = .ok (.iload_n 1, 1) := by decide +kernel
theorem dX5_why_25 : decode cX5_why 25 = .ok (.iload_n 2, 1) := by decide +kernel
theorem dX5_why_26 : decode cX5_why 26 = .ok (.invokevirtual 195, 3) := by decide +kernel
theorem dX5_why_29 : decode cX5_why 29 = .ok (.ifCond .ne 5, 3) := by decide +kernel
theorem dX5_why_32 : decode cX5_why 32 = .ok (.iconst 2, 1) := by decide +kernel
theorem dX5_why_33 : decode cX5_why 33 = .ok (.ireturn, 1) := by decide +kernel
theorem dX5_why_34 : decode cX5_why 34 = .ok (.aload_n 0, 1) := by decide +kernel
theorem dX5_why_35 : decode cX5_why 35 = .ok (.getfield 12, 3) := by decide +kernel
theorem dX5_why_38 : decode cX5_why 38 = .ok (.iload_n 1, 1) := by decide +kernel
theorem dX5_why_39 : decode cX5_why 39 = .ok (.iload_n 2, 1) := by decide +kernel
theorem dX5_why_40 : decode cX5_why 40 = .ok (.invokevirtual 191, 3) := by decide +kernel
theorem dX5_why_43 : decode cX5_why 43 = .ok (.ifCond .ne 7, 3) := by decide +kernel
theorem dX5_why_46 : decode cX5_why 46 = .ok (.iconst 0, 1) := by decide +kernel
theorem dX5_why_47 : decode cX5_why 47 = .ok (.goto 4, 3) := by decide +kernel
theorem dX5_why_50 : decode cX5_why 50 = .ok (.iconst 3, 1) := by decide +kernel
theorem dX5_why_51 : decode cX5_why 51 = .ok (.ireturn, 1) := by decide +kernel
theorem dX5_chance_0 : decode cX5_chance 0 = .ok (.aload_n 0, 1) := by decide +kernel
theorem dX5_chance_1 : decode cX5_chance 1 = .ok (.iload_n 1, 1) := by decide +kernel
theorem dX5_chance_2 : decode cX5_chance 2 = .ok (.iload_n 2, 1) := by decide +kernel
theorem dX5_chance_3 : decode cX5_chance 3 = .ok (.invokevirtual 183, 3) := by decide +kernel
theorem dX5_chance_6 : decode cX5_chance 6 = .ok (.aload_n 0, 1) := by decide +kernel
theorem dX5_chance_7 : decode cX5_chance 7 = .ok (.getfield 12, 3) := by decide +kernel
theorem dX5_chance_10 : decode cX5_chance 10 = .ok (.iload_n 1, 1) := by decide +kernel
theorem dX5_chance_11 : decode cX5_chance 11 = .ok (.iload_n 2, 1) := by decide +kernel
theorem dX5_chance_12 : decode cX5_chance 12 = .ok (.invokevirtual 195, 3) := by decide +kernel
theorem dX5_chance_15 : decode cX5_chance 15 = .ok (.ifCond .ne 13, 3) := by decide +kernel
theorem dX5_chance_18 : decode cX5_chance 18 = .ok (.new 66, 3) := by decide +kernel
theorem dX5_chance_21 : decode cX5_chance 21 = .ok (.dup, 1) := by decide +kernel
theorem dX5_chance_22 : decode cX5_chance 22 = .ok (.ldc 198, 2) := by decide +kernel
theorem dX5_chance_24 : decode cX5_chance 24 = .ok (.invokespecial 70, 3) := by decide +kernel
theorem dX5_chance_27 : decode cX5_chance 27 = .ok (.athrow, 1) := by decide +kernel
theorem dX5_chance_28 : decode cX5_chance 28 = .ok (.iload_n 3, 1) := by decide +kernel
theorem dX5_chance_29 : decode cX5_chance 29 = .ok (.ifCond .lt 14, 3) := by decide +kernel
theorem dX5_chance_32 : decode cX5_chance 32 = .ok (.iload_n 3, 1) := by decide +kernel
theorem dX5_chance_33 : decode cX5_chance 33 = .ok (.aload_n 0, 1) := by decide +kernel
theorem dX5_chance_34 : decode cX5_chance 34 = .ok (.getfield 12, 3) := by decide +kernel
theorem dX5_chance_37 : decode cX5_chance 37 = .ok (.getfield 96, 3) := by decide +kernel
theorem dX5_chance_40 : decode cX5_chance 40 = .ok (.if_icmp .le 13, 3) := by decide +kernel
theorem dX5_chance_43 : decode cX5_chance 43 = .ok (.new 127, 3) := by decide +kernel
theorem dX5_chance_46 : decode cX5_chance 46 = .ok (.dup, 1) := by decide +kernel
theorem dX5_chance_47 : decode cX5_chance 47 = .ok (.ldc 200, 2) := by decide +kernel
theorem dX5_chance_49 : decode cX5_chance 49 = .ok (.invokespecial 131, 3) := by decide +kernel
theorem dX5_chance_52 : decode cX5_chance 52 = .ok (.athrow, 1) := by decide +kernel
theorem dX5_chance_53 : decode cX5_chance 53 = .ok (.dconst 1, 1) := by decide +kernel
theorem dX5_chance_54 : decode cX5_chance 54 = .ok (.aload_n 0, 1) := by decide +kernel
theorem dX5_chance_55 : decode cX5_chance 55 = .ok (.getfield 12, 3) := by decide +kernel
theorem dX5_chance_58 : decode cX5_chance 58 = .ok (.iload_n 1, 1) := by decide +kernel
theorem dX5_chance_59 : decode cX5_chance 59 = .ok (.iload_n 2, 1) := by decide +kernel
theorem dX5_chance_60 : decode cX5_chance 60 = .ok (.iload_n 3, 1) := by decide +kernel
theorem dX5_chance_61 : decode cX5_chance 61 = .ok (.invokevirtual 202, 3) := by decide +kernel
theorem dX5_chance_64 : decode cX5_chance 64 = .ok (.dsub, 1) := by decide +kernel
theorem dX5_chance_65 : decode cX5_chance 65 = .ok (.dreturn, 1) := by decide +kernel
theorem dX5_bestTile_0 : decode cX5_bestTile 0 = .ok (.aload_n 0, 1) := by decide +kernel
theorem dX5_bestTile_1 : decode cX5_bestTile 1 = .ok (.iload_n 1, 1) := by decide +kernel
theorem dX5_bestTile_2 : decode cX5_bestTile 2 = .ok (.invokevirtual 159, 3) := by decide +kernel
theorem dX5_bestTile_5 : decode cX5_bestTile 5 = .ok (.aload_n 0, 1) := by decide +kernel
theorem dX5_bestTile_6 : decode cX5_bestTile 6 = .ok (.getfield 12, 3) := by decide +kernel
theorem dX5_bestTile_9 : decode cX5_bestTile 9 = .ok (.iload_n 1, 1) := by decide +kernel
theorem dX5_bestTile_10 : decode cX5_bestTile 10 = .ok (.invokevirtual 206, 3) := by decide +kernel
theorem dX5_bestTile_13 : decode cX5_bestTile 13 = .ok (.ireturn, 1) := by decide +kernel
theorem dX5_roundsToFind_0 : decode cX5_roundsToFind 0 = .ok (.iload_n 1, 1) := by decide +kernel
theorem dX5_roundsToFind_1 : decode cX5_roundsToFind 1 = .ok (.invokestatic 209, 3) := by decide +kernel
theorem dX5_roundsToFind_4 : decode cX5_roundsToFind 4 = .ok (.aload_n 0, 1) := by decide +kernel
theorem dX5_roundsToFind_5 : decode cX5_roundsToFind 5 = .ok (.getfield 16, 3) := by decide +kernel
theorem dX5_roundsToFind_8 : decode cX5_roundsToFind 8 = .ok (.aload_n 0, 1) := by decide +kernel
theorem dX5_roundsToFind_9 : decode cX5_roundsToFind 9 = .ok (.getfield 12, 3) := by decide +kernel
theorem dX5_roundsToFind_12 : decode cX5_roundsToFind 12 = .ok (.invokevirtual 87, 3) := by decide +kernel
theorem dX5_roundsToFind_15 : decode cX5_roundsToFind 15 = .ok (.iload_n 1, 1) := by decide +kernel
theorem dX5_roundsToFind_16 : decode cX5_roundsToFind 16 = .ok (.istore_n 2, 1) := by decide +kernel
theorem dX5_roundsToFind_17 : decode cX5_roundsToFind 17 = .ok (.iconst 0, 1) := by decide +kernel
theorem dX5_roundsToFind_18 : decode cX5_roundsToFind 18 = .ok (.istore_n 3, 1) := by decide +kernel
theorem dX5_roundsToFind_19 : decode cX5_roundsToFind 19 = .ok (.iload_n 3, 1) := by decide +kernel
theorem dX5_roundsToFind_20 : decode cX5_roundsToFind 20 = .ok (.bipush 60, 2) := by decide +kernel
theorem dX5_roundsToFind_22 : decode cX5_roundsToFind 22 = .ok (.if_icmp .ge 30, 3) := by decide +kernel
theorem dX5_roundsToFind_25 : decode cX5_roundsToFind 25 = .ok (.aload_n 0, 1) := by decide +kernel
theorem dX5_roundsToFind_26 : decode cX5_roundsToFind 26 = .ok (.getfield 16, 3) := by decide +kernel
theorem dX5_roundsToFind_29 : decode cX5_roundsToFind 29 = .ok (.invokevirtual 109, 3) := by decide +kernel
theorem dX5_roundsToFind_32 : decode cX5_roundsToFind 32 = .ok (.ifCond .ne 5, 3) := by decide +kernel
theorem dX5_roundsToFind_35 : decode cX5_roundsToFind 35 = .ok (.iload_n 3, 1) := by decide +kernel
theorem dX5_roundsToFind_36 : decode cX5_roundsToFind 36 = .ok (.ireturn, 1) := by decide +kernel
theorem dX5_roundsToFind_37 : decode cX5_roundsToFind 37 = .ok (.aload_n 0, 1) := by decide +kernel
theorem dX5_roundsToFind_38 : decode cX5_roundsToFind 38 = .ok (.getfield 16, 3) := by decide +kernel
theorem dX5_roundsToFind_41 : decode cX5_roundsToFind 41 = .ok (.iload_n 2, 1) := by decide +kernel
theorem dX5_roundsToFind_42 : decode cX5_roundsToFind 42 = .ok (.invokevirtual 212, 3) := by decide +kernel
theorem dX5_roundsToFind_45 : decode cX5_roundsToFind 45 = .ok (.istore_n 2, 1) := by decide +kernel
theorem dX5_roundsToFind_46 : decode cX5_roundsToFind 46 = .ok (.iinc 3 1, 3) := by decide +kernel
theorem dX5_roundsToFind_49 : decode cX5_roundsToFind 49 = .ok (.goto (-30), 3) := by decide +kernel
theorem dX5_roundsToFind_52 : decode cX5_roundsToFind 52 = .ok (.aload_n 0, 1) := by decide +kernel
theorem dX5_roundsToFind_53 : decode cX5_roundsToFind 53 = .ok (.getfield 16, 3) := by decide +kernel
theorem dX5_roundsToFind_56 : decode cX5_roundsToFind 56 = .ok (.invokevirtual 109, 3) := by decide +kernel
theorem dX5_roundsToFind_59 : decode cX5_roundsToFind 59 = .ok (.ifCond .ne 8, 3) := by decide +kernel
theorem dX5_roundsToFind_62 : decode cX5_roundsToFind 62 = .ok (.bipush 60, 2) := by decide +kernel
theorem dX5_roundsToFind_64 : decode cX5_roundsToFind 64 = .ok (.goto 4, 3) := by decide +kernel
theorem dX5_roundsToFind_67 : decode cX5_roundsToFind 67 = .ok (.iconst (-1), 1) := by decide +kernel
theorem dX5_roundsToFind_68 : decode cX5_roundsToFind 68 = .ok (.ireturn, 1) := by decide +kernel
theorem dX5_leastTrusted_0 : decode cX5_leastTrusted 0 = .ok (.iconst 0, 1) := by decide +kernel
theorem dX5_leastTrusted_1 : decode cX5_leastTrusted 1 = .ok (.istore_n 1, 1) := by decide +kernel
theorem dX5_leastTrusted_2 : decode cX5_leastTrusted 2 = .ok (.iconst 1, 1) := by decide +kernel
theorem dX5_leastTrusted_3 : decode cX5_leastTrusted 3 = .ok (.istore_n 2, 1) := by decide +kernel
theorem dX5_leastTrusted_4 : decode cX5_leastTrusted 4 = .ok (.iload_n 2, 1) := by decide +kernel
theorem dX5_leastTrusted_5 : decode cX5_leastTrusted 5 = .ok (.aload_n 0, 1) := by decide +kernel
theorem dX5_leastTrusted_6 : decode cX5_leastTrusted 6 = .ok (.getfield 12, 3) := by decide +kernel
theorem dX5_leastTrusted_9 : decode cX5_leastTrusted 9 = .ok (.getfield 99, 3) := by decide +kernel
theorem dX5_leastTrusted_12 : decode cX5_leastTrusted 12 = .ok (.if_icmp .ge 30, 3) := by decide +kernel
theorem dX5_leastTrusted_15 : decode cX5_leastTrusted 15 = .ok (.aload_n 0, 1) := by decide +kernel
theorem dX5_leastTrusted_16 : decode cX5_leastTrusted 16 = .ok (.getfield 12, 3) := by decide +kernel
theorem dX5_leastTrusted_19 : decode cX5_leastTrusted 19 = .ok (.iload_n 2, 1) := by decide +kernel
theorem dX5_leastTrusted_20 : decode cX5_leastTrusted 20 = .ok (.invokevirtual 151, 3) := by decide +kernel
theorem dX5_leastTrusted_23 : decode cX5_leastTrusted 23 = .ok (.aload_n 0, 1) := by decide +kernel
theorem dX5_leastTrusted_24 : decode cX5_leastTrusted 24 = .ok (.getfield 12, 3) := by decide +kernel
theorem dX5_leastTrusted_27 : decode cX5_leastTrusted 27 = .ok (.iload_n 1, 1) := by decide +kernel
theorem dX5_leastTrusted_28 : decode cX5_leastTrusted 28 = .ok (.invokevirtual 151, 3) := by decide +kernel
theorem dX5_leastTrusted_31 : decode cX5_leastTrusted 31 = .ok (.if_icmp .ge 5, 3) := by decide +kernel
theorem dX5_leastTrusted_34 : decode cX5_leastTrusted 34 = .ok (.iload_n 2, 1) := by decide +kernel
theorem dX5_leastTrusted_35 : decode cX5_leastTrusted 35 = .ok (.istore_n 1, 1) := by decide +kernel
theorem dX5_leastTrusted_36 : decode cX5_leastTrusted 36 = .ok (.iinc 2 1, 3) := by decide +kernel
theorem dX5_leastTrusted_39 : decode cX5_leastTrusted 39 = .ok (.goto (-35), 3) := by decide +kernel
theorem dX5_leastTrusted_42 : decode cX5_leastTrusted 42 = .ok (.iload_n 1, 1) := by decide +kernel
theorem dX5_leastTrusted_43 : decode cX5_leastTrusted 43 = .ok (.ireturn, 1) := by decide +kernel
theorem dX5_sources_0 : decode cX5_sources 0 = .ok (.aload_n 0, 1) := by decide +kernel
theorem dX5_sources_1 : decode cX5_sources 1 = .ok (.iload_n 1, 1) := by decide +kernel
theorem dX5_sources_2 : decode cX5_sources 2 = .ok (.iload_n 2, 1) := by decide +kernel
theorem dX5_sources_3 : decode cX5_sources 3 = .ok (.invokevirtual 183, 3) := by decide +kernel
theorem dX5_sources_6 : decode cX5_sources 6 = .ok (.aload_n 0, 1) := by decide +kernel
theorem dX5_sources_7 : decode cX5_sources 7 = .ok (.getfield 12, 3) := by decide +kernel
theorem dX5_sources_10 : decode cX5_sources 10 = .ok (.iload_n 1, 1) := by decide +kernel
theorem dX5_sources_11 : decode cX5_sources 11 = .ok (.iload_n 2, 1) := by decide +kernel
theorem dX5_sources_12 : decode cX5_sources 12 = .ok (.invokevirtual 215, 3) := by decide +kernel
theorem dX5_sources_15 : decode cX5_sources 15 = .ok (.ireturn, 1) := by decide +kernel
theorem dX5_wouldGet_0 : decode cX5_wouldGet 0 = .ok (.aload_n 0, 1) := by decide +kernel
theorem dX5_wouldGet_1 : decode cX5_wouldGet 1 = .ok (.iload_n 1, 1) := by decide +kernel
theorem dX5_wouldGet_2 : decode cX5_wouldGet 2 = .ok (.iload_n 2, 1) := by decide +kernel
theorem dX5_wouldGet_3 : decode cX5_wouldGet 3 = .ok (.invokevirtual 183, 3) := by decide +kernel
theorem dX5_wouldGet_6 : decode cX5_wouldGet 6 = .ok (.aload_n 0, 1) := by decide +kernel
theorem dX5_wouldGet_7 : decode cX5_wouldGet 7 = .ok (.getfield 12, 3) := by decide +kernel
theorem dX5_wouldGet_10 : decode cX5_wouldGet 10 = .ok (.iload_n 1, 1) := by decide +kernel
theorem dX5_wouldGet_11 : decode cX5_wouldGet 11 = .ok (.iload_n 2, 1) := by decide +kernel
theorem dX5_wouldGet_12 : decode cX5_wouldGet 12 = .ok (.invokevirtual 215, 3) := by decide +kernel
theorem dX5_wouldGet_15 : decode cX5_wouldGet 15 = .ok (.istore_n 3, 1) := by decide +kernel
theorem dX5_wouldGet_16 : decode cX5_wouldGet 16 = .ok (.iload_n 3, 1) := by decide +kernel
theorem dX5_wouldGet_17 : decode cX5_wouldGet 17 = .ok (.ifCond .ne 7, 3) := by decide +kernel
theorem dX5_wouldGet_20 : decode cX5_wouldGet 20 = .ok (.iconst (-1), 1) := by decide +kernel
theorem dX5_wouldGet_21 : decode cX5_wouldGet 21 = .ok (.goto 12, 3) := by decide +kernel
theorem dX5_wouldGet_24 : decode cX5_wouldGet 24 = .ok (.aload_n 0, 1) := by decide +kernel
theorem dX5_wouldGet_25 : decode cX5_wouldGet 25 = .ok (.getfield 12, 3) := by decide +kernel
theorem dX5_wouldGet_28 : decode cX5_wouldGet 28 = .ok (.iload_n 1, 1) := by decide +kernel
theorem dX5_wouldGet_29 : decode cX5_wouldGet 29 = .ok (.iload_n 3, 1) := by decide +kernel
theorem dX5_wouldGet_30 : decode cX5_wouldGet 30 = .ok (.invokevirtual 218, 3) := by decide +kernel
theorem dX5_wouldGet_33 : decode cX5_wouldGet 33 = .ok (.ireturn, 1) := by decide +kernel
theorem dX5_waves_0 : decode cX5_waves 0 = .ok (.aload_n 0, 1) := by decide +kernel
theorem dX5_waves_1 : decode cX5_waves 1 = .ok (.getfield 16, 3) := by decide +kernel
theorem dX5_waves_4 : decode cX5_waves 4 = .ok (.aload_n 0, 1) := by decide +kernel
theorem dX5_waves_5 : decode cX5_waves 5 = .ok (.getfield 12, 3) := by decide +kernel
theorem dX5_waves_8 : decode cX5_waves 8 = .ok (.invokevirtual 87, 3) := by decide +kernel
theorem dX5_waves_11 : decode cX5_waves 11 = .ok (.aload_n 0, 1) := by decide +kernel
theorem dX5_waves_12 : decode cX5_waves 12 = .ok (.getfield 16, 3) := by decide +kernel
theorem dX5_waves_15 : decode cX5_waves 15 = .ok (.invokevirtual 221, 3) := by decide +kernel
theorem dX5_waves_18 : decode cX5_waves 18 = .ok (.ireturn, 1) := by decide +kernel
theorem dX5_lost_0 : decode cX5_lost 0 = .ok (.aload_n 0, 1) := by decide +kernel
theorem dX5_lost_1 : decode cX5_lost 1 = .ok (.getfield 16, 3) := by decide +kernel
theorem dX5_lost_4 : decode cX5_lost 4 = .ok (.aload_n 0, 1) := by decide +kernel
theorem dX5_lost_5 : decode cX5_lost 5 = .ok (.getfield 12, 3) := by decide +kernel
theorem dX5_lost_8 : decode cX5_lost 8 = .ok (.invokevirtual 87, 3) := by decide +kernel
theorem dX5_lost_11 : decode cX5_lost 11 = .ok (.aload_n 0, 1) := by decide +kernel
theorem dX5_lost_12 : decode cX5_lost 12 = .ok (.getfield 16, 3) := by decide +kernel
theorem dX5_lost_15 : decode cX5_lost 15 = .ok (.invokevirtual 221, 3) := by decide +kernel
theorem dX5_lost_18 : decode cX5_lost 18 = .ok (.pop, 1) := by decide +kernel
theorem dX5_lost_19 : decode cX5_lost 19 = .ok (.aload_n 0, 1) := by decide +kernel
theorem dX5_lost_20 : decode cX5_lost 20 = .ok (.getfield 16, 3) := by decide +kernel
theorem dX5_lost_23 : decode cX5_lost 23 = .ok (.invokevirtual 106, 3) := by decide +kernel
theorem dX5_lost_26 : decode cX5_lost 26 = .ok (.ireturn, 1) := by decide +kernel
theorem dX5_depends_0 : decode cX5_depends 0 = .ok (.aload_n 0, 1) := by decide +kernel
theorem dX5_depends_1 : decode cX5_depends 1 = .ok (.iload_n 1, 1) := by decide +kernel
theorem dX5_depends_2 : decode cX5_depends 2 = .ok (.invokevirtual 159, 3) := by decide +kernel
theorem dX5_depends_5 : decode cX5_depends 5 = .ok (.aload_n 0, 1) := by decide +kernel
theorem dX5_depends_6 : decode cX5_depends 6 = .ok (.getfield 12, 3) := by decide +kernel
theorem dX5_depends_9 : decode cX5_depends 9 = .ok (.iload_n 1, 1) := by decide +kernel
theorem dX5_depends_10 : decode cX5_depends 10 = .ok (.invokevirtual 224, 3) := by decide +kernel
theorem dX5_depends_13 : decode cX5_depends 13 = .ok (.ireturn, 1) := by decide +kernel
theorem dX5_mostNeeded_0 : decode cX5_mostNeeded 0 = .ok (.iconst (-1), 1) := by decide +kernel
theorem dX5_mostNeeded_1 : decode cX5_mostNeeded 1 = .ok (.istore_n 1, 1) := by decide +kernel
theorem dX5_mostNeeded_2 : decode cX5_mostNeeded 2 = .ok (.iconst 0, 1) := by decide +kernel
theorem dX5_mostNeeded_3 : decode cX5_mostNeeded 3 = .ok (.istore_n 2, 1) := by decide +kernel
theorem dX5_mostNeeded_4 : decode cX5_mostNeeded 4 = .ok (.iconst 0, 1) := by decide +kernel
theorem dX5_mostNeeded_5 : decode cX5_mostNeeded 5 = .ok (.istore_n 3, 1) := by decide +kernel
theorem dX5_mostNeeded_6 : decode cX5_mostNeeded 6 = .ok (.iload_n 3, 1) := by decide +kernel
theorem dX5_mostNeeded_7 : decode cX5_mostNeeded 7 = .ok (.aload_n 0, 1) := by decide +kernel
theorem dX5_mostNeeded_8 : decode cX5_mostNeeded 8 = .ok (.getfield 12, 3) := by decide +kernel
theorem dX5_mostNeeded_11 : decode cX5_mostNeeded 11 = .ok (.getfield 99, 3) := by decide +kernel
theorem dX5_mostNeeded_14 : decode cX5_mostNeeded 14 = .ok (.if_icmp .ge 30, 3) := by decide +kernel
theorem dX5_mostNeeded_17 : decode cX5_mostNeeded 17 = .ok (.aload_n 0, 1) := by decide +kernel
theorem dX5_mostNeeded_18 : decode cX5_mostNeeded 18 = .ok (.getfield 12, 3) := by decide +kernel
theorem dX5_mostNeeded_21 : decode cX5_mostNeeded 21 = .ok (.iload_n 3, 1) := by decide +kernel
theorem dX5_mostNeeded_22 : decode cX5_mostNeeded 22 = .ok (.invokevirtual 227, 3) := by decide +kernel
theorem dX5_mostNeeded_25 : decode cX5_mostNeeded 25 = .ok (.istore 4, 2) := by decide +kernel
theorem dX5_mostNeeded_27 : decode cX5_mostNeeded 27 = .ok (.iload 4, 2) := by decide +kernel
theorem dX5_mostNeeded_29 : decode cX5_mostNeeded 29 = .ok (.iload_n 2, 1) := by decide +kernel
theorem dX5_mostNeeded_30 : decode cX5_mostNeeded 30 = .ok (.if_icmp .le 8, 3) := by decide +kernel
theorem dX5_mostNeeded_33 : decode cX5_mostNeeded 33 = .ok (.iload 4, 2) := by decide +kernel
theorem dX5_mostNeeded_35 : decode cX5_mostNeeded 35 = .ok (.istore_n 2, 1) := by decide +kernel
theorem dX5_mostNeeded_36 : decode cX5_mostNeeded 36 = .ok (.iload_n 3, 1) := by decide +kernel
theorem dX5_mostNeeded_37 : decode cX5_mostNeeded 37 = .ok (.istore_n 1, 1) := by decide +kernel
theorem dX5_mostNeeded_38 : decode cX5_mostNeeded 38 = .ok (.iinc 3 1, 3) := by decide +kernel
theorem dX5_mostNeeded_41 : decode cX5_mostNeeded 41 = .ok (.goto (-35), 3) := by decide +kernel
theorem dX5_mostNeeded_44 : decode cX5_mostNeeded 44 = .ok (.iload_n 1, 1) := by decide +kernel
theorem dX5_mostNeeded_45 : decode cX5_mostNeeded 45 = .ok (.ireturn, 1) := by decide +kernel
theorem dX5_reach_0 : decode cX5_reach 0 = .ok (.aload_n 0, 1) := by decide +kernel
theorem dX5_reach_1 : decode cX5_reach 1 = .ok (.iload_n 1, 1) := by decide +kernel
theorem dX5_reach_2 : decode cX5_reach 2 = .ok (.invokevirtual 159, 3) := by decide +kernel
theorem dX5_reach_5 : decode cX5_reach 5 = .ok (.aload_n 0, 1) := by decide +kernel
theorem dX5_reach_6 : decode cX5_reach 6 = .ok (.getfield 12, 3) := by decide +kernel
theorem dX5_reach_9 : decode cX5_reach 9 = .ok (.aload_n 0, 1) := by decide +kernel
theorem dX5_reach_10 : decode cX5_reach 10 = .ok (.getfield 12, 3) := by decide +kernel
theorem dX5_reach_13 : decode cX5_reach 13 = .ok (.getfield 165, 3) := by decide +kernel
theorem dX5_reach_16 : decode cX5_reach 16 = .ok (.iload_n 1, 1) := by decide +kernel
theorem dX5_reach_17 : decode cX5_reach 17 = .ok (.iaload, 1) := by decide +kernel
theorem dX5_reach_18 : decode cX5_reach 18 = .ok (.invokevirtual 230, 3) := by decide +kernel
theorem dX5_reach_21 : decode cX5_reach 21 = .ok (.invokestatic 233, 3) := by decide +kernel
theorem dX5_reach_24 : decode cX5_reach 24 = .ok (.ireturn, 1) := by decide +kernel
theorem dX5_wouldSpread_0 : decode cX5_wouldSpread 0 = .ok (.aload_n 0, 1) := by decide +kernel
theorem dX5_wouldSpread_1 : decode cX5_wouldSpread 1 = .ok (.getfield 16, 3) := by decide +kernel
theorem dX5_wouldSpread_4 : decode cX5_wouldSpread 4 = .ok (.aload_n 0, 1) := by decide +kernel
theorem dX5_wouldSpread_5 : decode cX5_wouldSpread 5 = .ok (.getfield 12, 3) := by decide +kernel
theorem dX5_wouldSpread_8 : decode cX5_wouldSpread 8 = .ok (.invokevirtual 87, 3) := by decide +kernel
theorem dX5_wouldSpread_11 : decode cX5_wouldSpread 11 = .ok (.aload_n 0, 1) := by decide +kernel
theorem dX5_wouldSpread_12 : decode cX5_wouldSpread 12 = .ok (.getfield 16, 3) := by decide +kernel
theorem dX5_wouldSpread_15 : decode cX5_wouldSpread 15 = .ok (.invokevirtual 238, 3) := by decide +kernel
theorem dX5_wouldSpread_18 : decode cX5_wouldSpread 18 = .ok (.ireturn, 1) := by decide +kernel
theorem dX5_bestPair_0 : decode cX5_bestPair 0 = .ok (.aload_n 0, 1) := by decide +kernel
theorem dX5_bestPair_1 : decode cX5_bestPair 1 = .ok (.getfield 16, 3) := by decide +kernel
theorem dX5_bestPair_4 : decode cX5_bestPair 4 = .ok (.aload_n 0, 1) := by decide +kernel
theorem dX5_bestPair_5 : decode cX5_bestPair 5 = .ok (.getfield 12, 3) := by decide +kernel
theorem dX5_bestPair_8 : decode cX5_bestPair 8 = .ok (.invokevirtual 87, 3) := by decide +kernel
theorem dX5_bestPair_11 : decode cX5_bestPair 11 = .ok (.aload_n 0, 1) := by decide +kernel
theorem dX5_bestPair_12 : decode cX5_bestPair 12 = .ok (.getfield 16, 3) := by decide +kernel
theorem dX5_bestPair_15 : decode cX5_bestPair 15 = .ok (.invokevirtual 241, 3) := by decide +kernel
theorem dX5_bestPair_18 : decode cX5_bestPair 18 = .ok (.istore_n 1, 1) := by decide +kernel
theorem dX5_bestPair_19 : decode cX5_bestPair 19 = .ok (.iconst (-1), 1) := by decide +kernel
theorem dX5_bestPair_20 : decode cX5_bestPair 20 = .ok (.istore_n 2, 1) := by decide +kernel
theorem dX5_bestPair_21 : decode cX5_bestPair 21 = .ok (.iconst 0, 1) := by decide +kernel
theorem dX5_bestPair_22 : decode cX5_bestPair 22 = .ok (.istore_n 3, 1) := by decide +kernel
theorem dX5_bestPair_23 : decode cX5_bestPair 23 = .ok (.iload_n 3, 1) := by decide +kernel
theorem dX5_bestPair_24 : decode cX5_bestPair 24 = .ok (.aload_n 0, 1) := by decide +kernel
theorem dX5_bestPair_25 : decode cX5_bestPair 25 = .ok (.getfield 12, 3) := by decide +kernel
theorem dX5_bestPair_28 : decode cX5_bestPair 28 = .ok (.getfield 99, 3) := by decide +kernel
theorem dX5_bestPair_31 : decode cX5_bestPair 31 = .ok (.if_icmp .ge 95, 3) := by decide +kernel
theorem dX5_bestPair_34 : decode cX5_bestPair 34 = .ok (.iload_n 3, 1) := by decide +kernel
theorem dX5_bestPair_35 : decode cX5_bestPair 35 = .ok (.iconst 1, 1) := by decide +kernel
theorem dX5_bestPair_36 : decode cX5_bestPair 36 = .ok (.iadd, 1) := by decide +kernel
theorem dX5_bestPair_37 : decode cX5_bestPair 37 = .ok (.istore 4, 2) := by decide +kernel
theorem dX5_bestPair_39 : decode cX5_bestPair 39 = .ok (.iload 4, 2) := by decide +kernel
theorem dX5_bestPair_41 : decode cX5_bestPair 41 = .ok (.aload_n 0, 1) := by decide +kernel
theorem dX5_bestPair_42 : decode cX5_bestPair 42 = .ok (.getfield 12, 3) := by decide +kernel
theorem dX5_bestPair_45 : decode cX5_bestPair 45 = .ok (.getfield 99, 3) := by decide +kernel
theorem dX5_bestPair_48 : decode cX5_bestPair 48 = .ok (.if_icmp .ge 72, 3) := by decide +kernel
theorem dX5_bestPair_51 : decode cX5_bestPair 51 = .ok (.aload_n 0, 1) := by decide +kernel
theorem dX5_bestPair_52 : decode cX5_bestPair 52 = .ok (.getfield 12, 3) := by decide +kernel
theorem dX5_bestPair_55 : decode cX5_bestPair 55 = .ok (.iload_n 3, 1) := by decide +kernel
theorem dX5_bestPair_56 : decode cX5_bestPair 56 = .ok (.iload 4, 2) := by decide +kernel
theorem dX5_bestPair_58 : decode cX5_bestPair 58 = .ok (.invokevirtual 244, 3) := by decide +kernel
theorem dX5_bestPair_61 : decode cX5_bestPair 61 = .ok (.ifCond .eq 6, 3) := by decide +kernel
theorem dX5_bestPair_64 : decode cX5_bestPair 64 = .ok (.goto 50, 3) := by decide +kernel
theorem dX5_bestPair_67 : decode cX5_bestPair 67 = .ok (.aload_n 0, 1) := by decide +kernel
theorem dX5_bestPair_68 : decode cX5_bestPair 68 = .ok (.getfield 16, 3) := by decide +kernel
theorem dX5_bestPair_71 : decode cX5_bestPair 71 = .ok (.aload_n 0, 1) := by decide +kernel
theorem dX5_bestPair_72 : decode cX5_bestPair 72 = .ok (.getfield 12, 3) := by decide +kernel
theorem dX5_bestPair_75 : decode cX5_bestPair 75 = .ok (.invokevirtual 87, 3) := by decide +kernel
theorem dX5_bestPair_78 : decode cX5_bestPair 78 = .ok (.aload_n 0, 1) := by decide +kernel
theorem dX5_bestPair_79 : decode cX5_bestPair 79 = .ok (.getfield 16, 3) := by decide +kernel
theorem dX5_bestPair_82 : decode cX5_bestPair 82 = .ok (.iload_n 3, 1) := by decide +kernel
theorem dX5_bestPair_83 : decode cX5_bestPair 83 = .ok (.iload 4, 2) := by decide +kernel
theorem dX5_bestPair_85 : decode cX5_bestPair 85 = .ok (.invokevirtual 247, 3) := by decide +kernel
theorem dX5_bestPair_88 : decode cX5_bestPair 88 = .ok (.aload_n 0, 1) := by decide +kernel
theorem dX5_bestPair_89 : decode cX5_bestPair 89 = .ok (.getfield 16, 3) := by decide +kernel
theorem dX5_bestPair_92 : decode cX5_bestPair 92 = .ok (.invokevirtual 241, 3) := by decide +kernel
theorem dX5_bestPair_95 : decode cX5_bestPair 95 = .ok (.istore 5, 2) := by decide +kernel
theorem dX5_bestPair_97 : decode cX5_bestPair 97 = .ok (.iload 5, 2) := by decide +kernel
theorem dX5_bestPair_99 : decode cX5_bestPair 99 = .ok (.iload_n 1, 1) := by decide +kernel
theorem dX5_bestPair_100 : decode cX5_bestPair 100 = .ok (.if_icmp .ge 14, 3) := by decide +kernel
theorem dX5_bestPair_103 : decode cX5_bestPair 103 = .ok (.iload 5, 2) := by decide +kernel
theorem dX5_bestPair_105 : decode cX5_bestPair 105 = .ok (.istore_n 1, 1) := by decide +kernel
theorem dX5_bestPair_106 : decode cX5_bestPair 106 = .ok (.bipush 10, 2) := by decide +kernel
theorem dX5_bestPair_108 : decode cX5_bestPair 108 = .ok (.iload_n 3, 1) := by decide +kernel
theorem dX5_bestPair_109 : decode cX5_bestPair 109 = .ok (.imul, 1) := by decide +kernel
theorem dX5_bestPair_110 : decode cX5_bestPair 110 = .ok (.iload 4, 2) := by decide +kernel
theorem dX5_bestPair_112 : decode cX5_bestPair 112 = .ok (.iadd, 1) := by decide +kernel
theorem dX5_bestPair_113 : decode cX5_bestPair 113 = .ok (.istore_n 2, 1) := by decide +kernel
theorem dX5_bestPair_114 : decode cX5_bestPair 114 = .ok (.iinc 4 1, 3) := by decide +kernel
theorem dX5_bestPair_117 : decode cX5_bestPair 117 = .ok (.goto (-78), 3) := by decide +kernel
theorem dX5_bestPair_120 : decode cX5_bestPair 120 = .ok (.iinc 3 1, 3) := by decide +kernel
theorem dX5_bestPair_123 : decode cX5_bestPair 123 = .ok (.goto (-100), 3) := by decide +kernel
theorem dX5_bestPair_126 : decode cX5_bestPair 126 = .ok (.iload_n 2, 1) := by decide +kernel
theorem dX5_bestPair_127 : decode cX5_bestPair 127 = .ok (.ireturn, 1) := by decide +kernel
theorem dX5_soundness_0 : decode cX5_soundness 0 = .ok (.aload_n 0, 1) := by decide +kernel
theorem dX5_soundness_1 : decode cX5_soundness 1 = .ok (.getfield 12, 3) := by decide +kernel
theorem dX5_soundness_4 : decode cX5_soundness 4 = .ok (.invokevirtual 250, 3) := by decide +kernel
theorem dX5_soundness_7 : decode cX5_soundness 7 = .ok (.istore_n 1, 1) := by decide +kernel
theorem dX5_soundness_8 : decode cX5_soundness 8 = .ok (.iload_n 1, 1) := by decide +kernel
theorem dX5_soundness_9 : decode cX5_soundness 9 = .ok (.ifCond .ne 5, 3) := by decide +kernel
theorem dX5_soundness_12 : decode cX5_soundness 12 = .ok (.fconst 0, 1) := by decide +kernel
theorem dX5_soundness_13 : decode cX5_soundness 13 = .ok (.freturn, 1) := by decide +kernel
theorem dX5_soundness_14 : decode cX5_soundness 14 = .ok (.iload_n 1, 1) := by decide +kernel
theorem dX5_soundness_15 : decode cX5_soundness 15 = .ok (.aload_n 0, 1) := by decide +kernel
theorem dX5_soundness_16 : decode cX5_soundness 16 = .ok (.getfield 12, 3) := by decide +kernel
theorem dX5_soundness_19 : decode cX5_soundness 19 = .ok (.invokevirtual 109, 3) := by decide +kernel
theorem dX5_soundness_22 : decode cX5_soundness 22 = .ok (.isub, 1) := by decide +kernel
theorem dX5_soundness_23 : decode cX5_soundness 23 = .ok (.i2f, 1) := by decide +kernel
theorem dX5_soundness_24 : decode cX5_soundness 24 = .ok (.iload_n 1, 1) := by decide +kernel
theorem dX5_soundness_25 : decode cX5_soundness 25 = .ok (.i2f, 1) := by decide +kernel
theorem dX5_soundness_26 : decode cX5_soundness 26 = .ok (.fdiv, 1) := by decide +kernel
theorem dX5_soundness_27 : decode cX5_soundness 27 = .ok (.freturn, 1) := by decide +kernel
theorem dX5_ask_0 : decode cX5_ask 0 = .ok (.aload_n 0, 1) := by decide +kernel
theorem dX5_ask_1 : decode cX5_ask 1 = .ok (.iload_n 1, 1) := by decide +kernel
theorem dX5_ask_2 : decode cX5_ask 2 = .ok (.iload_n 2, 1) := by decide +kernel
theorem dX5_ask_3 : decode cX5_ask 3 = .ok (.invokevirtual 183, 3) := by decide +kernel
theorem dX5_ask_6 : decode cX5_ask 6 = .ok (.iload_n 3, 1) := by decide +kernel
theorem dX5_ask_7 : decode cX5_ask 7 = .ok (.ifCond .lt 14, 3) := by decide +kernel
theorem dX5_ask_10 : decode cX5_ask 10 = .ok (.iload_n 3, 1) := by decide +kernel
theorem dX5_ask_11 : decode cX5_ask 11 = .ok (.aload_n 0, 1) := by decide +kernel
theorem dX5_ask_12 : decode cX5_ask 12 = .ok (.getfield 12, 3) := by decide +kernel
theorem dX5_ask_15 : decode cX5_ask 15 = .ok (.getfield 96, 3) := by decide +kernel
theorem dX5_ask_18 : decode cX5_ask 18 = .ok (.if_icmp .lt 13, 3) := by decide +kernel
theorem dX5_ask_21 : decode cX5_ask 21 = .ok (.new 253, 3) := by decide +kernel
theorem dX5_ask_24 : decode cX5_ask 24 = .ok (.dup, 1) := by decide +kernel
theorem dX5_ask_25 : decode cX5_ask 25 = .ok (.ldc 255, 2) := by decide +kernel
theorem dX5_ask_27 : decode cX5_ask 27 = .ok (.invokespecial 257, 3) := by decide +kernel
theorem dX5_ask_30 : decode cX5_ask 30 = .ok (.athrow, 1) := by decide +kernel
theorem dX5_ask_31 : decode cX5_ask 31 = .ok (.aload_n 0, 1) := by decide +kernel
theorem dX5_ask_32 : decode cX5_ask 32 = .ok (.getfield 12, 3) := by decide +kernel
theorem dX5_ask_35 : decode cX5_ask 35 = .ok (.iload_n 1, 1) := by decide +kernel
theorem dX5_ask_36 : decode cX5_ask 36 = .ok (.iload_n 2, 1) := by decide +kernel
theorem dX5_ask_37 : decode cX5_ask 37 = .ok (.invokevirtual 187, 3) := by decide +kernel
theorem dX5_ask_40 : decode cX5_ask 40 = .ok (.ifCond .ne 6, 3) := by decide +kernel
theorem dX5_ask_43 : decode cX5_ask 43 = .ok (.bipush (-11), 2) := by decide +kernel
theorem dX5_ask_45 : decode cX5_ask 45 = .ok (.ireturn, 1) := by decide +kernel
theorem dX5_ask_46 : decode cX5_ask 46 = .ok (.aload_n 0, 1) := by decide +kernel
theorem dX5_ask_47 : decode cX5_ask 47 = .ok (.getfield 12, 3) := by decide +kernel
theorem dX5_ask_50 : decode cX5_ask 50 = .ok (.iload_n 1, 1) := by decide +kernel
theorem dX5_ask_51 : decode cX5_ask 51 = .ok (.iload_n 2, 1) := by decide +kernel
theorem dX5_ask_52 : decode cX5_ask 52 = .ok (.invokevirtual 195, 3) := by decide +kernel
theorem dX5_ask_55 : decode cX5_ask 55 = .ok (.ifCond .ne 6, 3) := by decide +kernel
theorem dX5_ask_58 : decode cX5_ask 58 = .ok (.bipush (-12), 2) := by decide +kernel
theorem dX5_ask_60 : decode cX5_ask 60 = .ok (.ireturn, 1) := by decide +kernel
theorem dX5_ask_61 : decode cX5_ask 61 = .ok (.aload_n 0, 1) := by decide +kernel
theorem dX5_ask_62 : decode cX5_ask 62 = .ok (.getfield 22, 3) := by decide +kernel
theorem dX5_ask_65 : decode cX5_ask 65 = .ok (.aload_n 0, 1) := by decide +kernel
theorem dX5_ask_66 : decode cX5_ask 66 = .ok (.getfield 12, 3) := by decide +kernel
theorem dX5_ask_69 : decode cX5_ask 69 = .ok (.invokevirtual 83, 3) := by decide +kernel
theorem dX5_ask_72 : decode cX5_ask 72 = .ok (.aload_n 0, 1) := by decide +kernel
theorem dX5_ask_73 : decode cX5_ask 73 = .ok (.getfield 12, 3) := by decide +kernel
theorem dX5_ask_76 : decode cX5_ask 76 = .ok (.iload_n 1, 1) := by decide +kernel
theorem dX5_ask_77 : decode cX5_ask 77 = .ok (.iload_n 2, 1) := by decide +kernel
theorem dX5_ask_78 : decode cX5_ask 78 = .ok (.iload_n 3, 1) := by decide +kernel
theorem dX5_ask_79 : decode cX5_ask 79 = .ok (.invokevirtual 258, 3) := by decide +kernel
theorem dX5_ask_82 : decode cX5_ask 82 = .ok (.ifCond .eq 7, 3) := by decide +kernel
theorem dX5_ask_85 : decode cX5_ask 85 = .ok (.iconst 1, 1) := by decide +kernel
theorem dX5_ask_86 : decode cX5_ask 86 = .ok (.goto 4, 3) := by decide +kernel
theorem dX5_ask_89 : decode cX5_ask 89 = .ok (.iconst 0, 1) := by decide +kernel
theorem dX5_ask_90 : decode cX5_ask 90 = .ok (.ireturn, 1) := by decide +kernel
theorem dX5_round_0 : decode cX5_round 0 = .ok (.iload_n 1, 1) := by decide +kernel
theorem dX5_round_1 : decode cX5_round 1 = .ok (.invokestatic 209, 3) := by decide +kernel
theorem dX5_round_4 : decode cX5_round 4 = .ok (.aload_n 0, 1) := by decide +kernel
theorem dX5_round_5 : decode cX5_round 5 = .ok (.getfield 22, 3) := by decide +kernel
theorem dX5_round_8 : decode cX5_round 8 = .ok (.aload_n 0, 1) := by decide +kernel
theorem dX5_round_9 : decode cX5_round 9 = .ok (.getfield 12, 3) := by decide +kernel
theorem dX5_round_12 : decode cX5_round 12 = .ok (.invokevirtual 83, 3) := by decide +kernel
theorem dX5_round_15 : decode cX5_round 15 = .ok (.aload_n 0, 1) := by decide +kernel
theorem dX5_round_16 : decode cX5_round 16 = .ok (.getfield 12, 3) := by decide +kernel
theorem dX5_round_19 : decode cX5_round 19 = .ok (.invokevirtual 106, 3) := by decide +kernel
theorem dX5_round_22 : decode cX5_round 22 = .ok (.istore_n 2, 1) := by decide +kernel
theorem dX5_round_23 : decode cX5_round 23 = .ok (.aload_n 0, 1) := by decide +kernel
theorem dX5_round_24 : decode cX5_round 24 = .ok (.getfield 12, 3) := by decide +kernel
theorem dX5_round_27 : decode cX5_round 27 = .ok (.iload_n 1, 1) := by decide +kernel
theorem dX5_round_28 : decode cX5_round 28 = .ok (.invokevirtual 212, 3) := by decide +kernel
theorem dX5_round_31 : decode cX5_round 31 = .ok (.pop, 1) := by decide +kernel
theorem dX5_round_32 : decode cX5_round 32 = .ok (.aload_n 0, 1) := by decide +kernel
theorem dX5_round_33 : decode cX5_round 33 = .ok (.getfield 12, 3) := by decide +kernel
theorem dX5_round_36 : decode cX5_round 36 = .ok (.invokevirtual 106, 3) := by decide +kernel
theorem dX5_round_39 : decode cX5_round 39 = .ok (.iload_n 2, 1) := by decide +kernel
theorem dX5_round_40 : decode cX5_round 40 = .ok (.isub, 1) := by decide +kernel
theorem dX5_round_41 : decode cX5_round 41 = .ok (.ireturn, 1) := by decide +kernel
theorem dX5_harm_0 : decode cX5_harm 0 = .ok (.aload_n 0, 1) := by decide +kernel
theorem dX5_harm_1 : decode cX5_harm 1 = .ok (.iload_n 1, 1) := by decide +kernel
theorem dX5_harm_2 : decode cX5_harm 2 = .ok (.invokevirtual 132, 3) := by decide +kernel
theorem dX5_harm_5 : decode cX5_harm 5 = .ok (.iload_n 2, 1) := by decide +kernel
theorem dX5_harm_6 : decode cX5_harm 6 = .ok (.ifCond .eq 17, 3) := by decide +kernel
theorem dX5_harm_9 : decode cX5_harm 9 = .ok (.iload_n 2, 1) := by decide +kernel
theorem dX5_harm_10 : decode cX5_harm 10 = .ok (.aload_n 0, 1) := by decide +kernel
theorem dX5_harm_11 : decode cX5_harm 11 = .ok (.getfield 12, 3) := by decide +kernel
theorem dX5_harm_14 : decode cX5_harm 14 = .ok (.invokevirtual 262, 3) := by decide +kernel
theorem dX5_harm_17 : decode cX5_harm 17 = .ok (.iconst (-1), 1) := by decide +kernel
theorem dX5_harm_18 : decode cX5_harm 18 = .ok (.ixor, 1) := by decide +kernel
theorem dX5_harm_19 : decode cX5_harm 19 = .ok (.iand, 1) := by decide +kernel
theorem dX5_harm_20 : decode cX5_harm 20 = .ok (.ifCond .eq 14, 3) := by decide +kernel
theorem dX5_harm_23 : decode cX5_harm 23 = .ok (.new 127, 3) := by decide +kernel
theorem dX5_harm_26 : decode cX5_harm 26 = .ok (.dup, 1) := by decide +kernel
theorem dX5_harm_27 : decode cX5_harm 27 = .ok (.ldc_w 265, 3) := by decide +kernel
theorem dX5_harm_30 : decode cX5_harm 30 = .ok (.invokespecial 131, 3) := by decide +kernel
theorem dX5_harm_33 : decode cX5_harm 33 = .ok (.athrow, 1) := by decide +kernel
theorem dX5_harm_34 : decode cX5_harm 34 = .ok (.aload_n 0, 1) := by decide +kernel
theorem dX5_harm_35 : decode cX5_harm 35 = .ok (.getfield 22, 3) := by decide +kernel
theorem dX5_harm_38 : decode cX5_harm 38 = .ok (.aload_n 0, 1) := by decide +kernel
theorem dX5_harm_39 : decode cX5_harm 39 = .ok (.getfield 12, 3) := by decide +kernel
theorem dX5_harm_42 : decode cX5_harm 42 = .ok (.invokevirtual 83, 3) := by decide +kernel
theorem dX5_harm_45 : decode cX5_harm 45 = .ok (.aload_n 0, 1) := by decide +kernel
theorem dX5_harm_46 : decode cX5_harm 46 = .ok (.getfield 12, 3) := by decide +kernel
theorem dX5_harm_49 : decode cX5_harm 49 = .ok (.invokevirtual 109, 3) := by decide +kernel
theorem dX5_harm_52 : decode cX5_harm 52 = .ok (.istore_n 3, 1) := by decide +kernel
theorem dX5_harm_53 : decode cX5_harm 53 = .ok (.aload_n 0, 1) := by decide +kernel
theorem dX5_harm_54 : decode cX5_harm 54 = .ok (.getfield 12, 3) := by decide +kernel
theorem dX5_harm_57 : decode cX5_harm 57 = .ok (.iload_n 1, 1) := by decide +kernel
theorem dX5_harm_58 : decode cX5_harm 58 = .ok (.iload_n 2, 1) := by decide +kernel
theorem dX5_harm_59 : decode cX5_harm 59 = .ok (.invokevirtual 267, 3) := by decide +kernel
theorem dX5_harm_62 : decode cX5_harm 62 = .ok (.aload_n 0, 1) := by decide +kernel
theorem dX5_harm_63 : decode cX5_harm 63 = .ok (.getfield 12, 3) := by decide +kernel
theorem dX5_harm_66 : decode cX5_harm 66 = .ok (.invokevirtual 109, 3) := by decide +kernel
theorem dX5_harm_69 : decode cX5_harm 69 = .ok (.iload_n 3, 1) := by decide +kernel
theorem dX5_harm_70 : decode cX5_harm 70 = .ok (.isub, 1) := by decide +kernel
theorem dX5_harm_71 : decode cX5_harm 71 = .ok (.ireturn, 1) := by decide +kernel
theorem dX5_repair_0 : decode cX5_repair 0 = .ok (.aload_n 0, 1) := by decide +kernel
theorem dX5_repair_1 : decode cX5_repair 1 = .ok (.iload_n 1, 1) := by decide +kernel
theorem dX5_repair_2 : decode cX5_repair 2 = .ok (.iload_n 2, 1) := by decide +kernel
theorem dX5_repair_3 : decode cX5_repair 3 = .ok (.invokevirtual 183, 3) := by decide +kernel
theorem dX5_repair_6 : decode cX5_repair 6 = .ok (.aload_n 0, 1) := by decide +kernel
theorem dX5_repair_7 : decode cX5_repair 7 = .ok (.getfield 12, 3) := by decide +kernel
theorem dX5_repair_10 : decode cX5_repair 10 = .ok (.iload_n 1, 1) := by decide +kernel
theorem dX5_repair_11 : decode cX5_repair 11 = .ok (.iload_n 2, 1) := by decide +kernel
theorem dX5_repair_12 : decode cX5_repair 12 = .ok (.invokevirtual 187, 3) := by decide +kernel
theorem dX5_repair_15 : decode cX5_repair 15 = .ok (.ifCond .ne 6, 3) := by decide +kernel
theorem dX5_repair_18 : decode cX5_repair 18 = .ok (.bipush (-11), 2) := by decide +kernel
theorem dX5_repair_20 : decode cX5_repair 20 = .ok (.ireturn, 1) := by decide +kernel
theorem dX5_repair_21 : decode cX5_repair 21 = .ok (.aload_n 0, 1) := by decide +kernel
theorem dX5_repair_22 : decode cX5_repair 22 = .ok (.getfield 12, 3) := by decide +kernel
theorem dX5_repair_25 : decode cX5_repair 25 = .ok (.iload_n 1, 1) := by decide +kernel
theorem dX5_repair_26 : decode cX5_repair 26 = .ok (.iload_n 2, 1) := by decide +kernel
theorem dX5_repair_27 : decode cX5_repair 27 = .ok (.invokevirtual 195, 3) := by decide +kernel
theorem dX5_repair_30 : decode cX5_repair 30 = .ok (.ifCond .eq 6, 3) := by decide +kernel
theorem dX5_repair_33 : decode cX5_repair 33 = .ok (.bipush (-13), 2) := by decide +kernel
theorem dX5_repair_35 : decode cX5_repair 35 = .ok (.ireturn, 1) := by decide +kernel
theorem dX5_repair_36 : decode cX5_repair 36 = .ok (.aload_n 0, 1) := by decide +kernel
theorem dX5_repair_37 : decode cX5_repair 37 = .ok (.getfield 12, 3) := by decide +kernel
theorem dX5_repair_40 : decode cX5_repair 40 = .ok (.iload_n 1, 1) := by decide +kernel
theorem dX5_repair_41 : decode cX5_repair 41 = .ok (.iload_n 2, 1) := by decide +kernel
theorem dX5_repair_42 : decode cX5_repair 42 = .ok (.invokevirtual 215, 3) := by decide +kernel
theorem dX5_repair_45 : decode cX5_repair 45 = .ok (.istore_n 3, 1) := by decide +kernel
theorem dX5_repair_46 : decode cX5_repair 46 = .ok (.iload_n 3, 1) := by decide +kernel
theorem dX5_repair_47 : decode cX5_repair 47 = .ok (.ifCond .ne 6, 3) := by decide +kernel
theorem dX5_repair_50 : decode cX5_repair 50 = .ok (.bipush (-14), 2) := by decide +kernel
theorem dX5_repair_52 : decode cX5_repair 52 = .ok (.ireturn, 1) := by decide +kernel
theorem dX5_repair_53 : decode cX5_repair 53 = .ok (.aload_n 0, 1) := by decide +kernel
theorem dX5_repair_54 : decode cX5_repair 54 = .ok (.getfield 22, 3) := by decide +kernel
theorem dX5_repair_57 : decode cX5_repair 57 = .ok (.aload_n 0, 1) := by decide +kernel
theorem dX5_repair_58 : decode cX5_repair 58 = .ok (.getfield 12, 3) := by decide +kernel
theorem dX5_repair_61 : decode cX5_repair 61 = .ok (.invokevirtual 83, 3) := by decide +kernel
theorem dX5_repair_64 : decode cX5_repair 64 = .ok (.aload_n 0, 1) := by decide +kernel
theorem dX5_repair_65 : decode cX5_repair 65 = .ok (.getfield 12, 3) := by decide +kernel
theorem dX5_repair_68 : decode cX5_repair 68 = .ok (.iload_n 1, 1) := by decide +kernel
theorem dX5_repair_69 : decode cX5_repair 69 = .ok (.iload_n 2, 1) := by decide +kernel
theorem dX5_repair_70 : decode cX5_repair 70 = .ok (.iload_n 3, 1) := by decide +kernel
theorem dX5_repair_71 : decode cX5_repair 71 = .ok (.invokevirtual 270, 3) := by decide +kernel
theorem dX5_repair_74 : decode cX5_repair 74 = .ok (.iload_n 3, 1) := by decide +kernel
theorem dX5_repair_75 : decode cX5_repair 75 = .ok (.invokestatic 233, 3) := by decide +kernel
theorem dX5_repair_78 : decode cX5_repair 78 = .ok (.ireturn, 1) := by decide +kernel
theorem dX5_wave_0 : decode cX5_wave 0 = .ok (.aload_n 0, 1) := by decide +kernel
theorem dX5_wave_1 : decode cX5_wave 1 = .ok (.getfield 22, 3) := by decide +kernel
theorem dX5_wave_4 : decode cX5_wave 4 = .ok (.aload_n 0, 1) := by decide +kernel
theorem dX5_wave_5 : decode cX5_wave 5 = .ok (.getfield 12, 3) := by decide +kernel
theorem dX5_wave_8 : decode cX5_wave 8 = .ok (.invokevirtual 83, 3) := by decide +kernel
theorem dX5_wave_11 : decode cX5_wave 11 = .ok (.aload_n 0, 1) := by decide +kernel
theorem dX5_wave_12 : decode cX5_wave 12 = .ok (.getfield 12, 3) := by decide +kernel
theorem dX5_wave_15 : decode cX5_wave 15 = .ok (.invokevirtual 274, 3) := by decide +kernel
theorem dX5_wave_18 : decode cX5_wave 18 = .ok (.ireturn, 1) := by decide +kernel
theorem dX5_spread_0 : decode cX5_spread 0 = .ok (.aload_n 0, 1) := by decide +kernel
theorem dX5_spread_1 : decode cX5_spread 1 = .ok (.getfield 22, 3) := by decide +kernel
theorem dX5_spread_4 : decode cX5_spread 4 = .ok (.aload_n 0, 1) := by decide +kernel
theorem dX5_spread_5 : decode cX5_spread 5 = .ok (.getfield 12, 3) := by decide +kernel
theorem dX5_spread_8 : decode cX5_spread 8 = .ok (.invokevirtual 83, 3) := by decide +kernel
theorem dX5_spread_11 : decode cX5_spread 11 = .ok (.aload_n 0, 1) := by decide +kernel
theorem dX5_spread_12 : decode cX5_spread 12 = .ok (.getfield 12, 3) := by decide +kernel
theorem dX5_spread_15 : decode cX5_spread 15 = .ok (.invokevirtual 238, 3) := by decide +kernel
theorem dX5_spread_18 : decode cX5_spread 18 = .ok (.ireturn, 1) := by decide +kernel
theorem dX5_join_0 : decode cX5_join 0 = .ok (.iload_n 1, 1) := by decide +kernel
theorem dX5_join_1 : decode cX5_join 1 = .ok (.iconst 1, 1) := by decide +kernel
theorem dX5_join_2 : decode cX5_join 2 = .ok (.if_icmp .lt 9, 3) := by decide +kernel
theorem dX5_join_5 : decode cX5_join 5 = .ok (.iload_n 1, 1) := by decide +kernel
theorem dX5_join_6 : decode cX5_join 6 = .ok (.bipush 20, 2) := by decide +kernel
theorem dX5_join_8 : decode cX5_join 8 = .ok (.if_icmp .le 14, 3) := by decide +kernel
theorem dX5_join_11 : decode cX5_join 11 = .ok (.new 127, 3) := by decide +kernel
theorem dX5_join_14 : decode cX5_join 14 = .ok (.dup, 1) := by decide +kernel
theorem dX5_join_15 : decode cX5_join 15 = .ok (.ldc_w 277, 3) := by decide +kernel
theorem dX5_join_18 : decode cX5_join 18 = .ok (.invokespecial 131, 3) := by decide +kernel
theorem dX5_join_21 : decode cX5_join 21 = .ok (.athrow, 1) := by decide +kernel
theorem dX5_join_22 : decode cX5_join 22 = .ok (.aload_n 0, 1) := by decide +kernel
theorem dX5_join_23 : decode cX5_join 23 = .ok (.getfield 12, 3) := by decide +kernel
theorem dX5_join_26 : decode cX5_join 26 = .ok (.getfield 99, 3) := by decide +kernel
theorem dX5_join_29 : decode cX5_join 29 = .ok (.bipush 10, 2) := by decide +kernel
theorem dX5_join_31 : decode cX5_join 31 = .ok (.if_icmp .lt 6, 3) := by decide +kernel
theorem dX5_join_34 : decode cX5_join 34 = .ok (.bipush (-15), 2) := by decide +kernel
theorem dX5_join_36 : decode cX5_join 36 = .ok (.ireturn, 1) := by decide +kernel
theorem dX5_join_37 : decode cX5_join 37 = .ok (.aload_n 0, 1) := by decide +kernel
theorem dX5_join_38 : decode cX5_join 38 = .ok (.getfield 22, 3) := by decide +kernel
theorem dX5_join_41 : decode cX5_join 41 = .ok (.aload_n 0, 1) := by decide +kernel
theorem dX5_join_42 : decode cX5_join 42 = .ok (.getfield 12, 3) := by decide +kernel
theorem dX5_join_45 : decode cX5_join 45 = .ok (.invokevirtual 83, 3) := by decide +kernel
theorem dX5_join_48 : decode cX5_join 48 = .ok (.aload_n 0, 1) := by decide +kernel
theorem dX5_join_49 : decode cX5_join 49 = .ok (.getfield 12, 3) := by decide +kernel
theorem dX5_join_52 : decode cX5_join 52 = .ok (.lconst 0, 1) := by decide +kernel
theorem dX5_join_53 : decode cX5_join 53 = .ok (.bipush 45, 2) := by decide +kernel
theorem dX5_join_55 : decode cX5_join 55 = .ok (.invokestatic 48, 3) := by decide +kernel
theorem dX5_join_58 : decode cX5_join 58 = .ok (.iload_n 1, 1) := by decide +kernel
theorem dX5_join_59 : decode cX5_join 59 = .ok (.invokevirtual 54, 3) := by decide +kernel
theorem dX5_join_62 : decode cX5_join 62 = .ok (.aload_n 0, 1) := by decide +kernel
theorem dX5_join_63 : decode cX5_join 63 = .ok (.getfield 12, 3) := by decide +kernel
theorem dX5_join_66 : decode cX5_join 66 = .ok (.getfield 99, 3) := by decide +kernel
theorem dX5_join_69 : decode cX5_join 69 = .ok (.iconst 1, 1) := by decide +kernel
theorem dX5_join_70 : decode cX5_join 70 = .ok (.isub, 1) := by decide +kernel
theorem dX5_join_71 : decode cX5_join 71 = .ok (.ireturn, 1) := by decide +kernel
theorem dX5_meet_0 : decode cX5_meet 0 = .ok (.aload_n 0, 1) := by decide +kernel
theorem dX5_meet_1 : decode cX5_meet 1 = .ok (.iload_n 1, 1) := by decide +kernel
theorem dX5_meet_2 : decode cX5_meet 2 = .ok (.invokevirtual 132, 3) := by decide +kernel
theorem dX5_meet_5 : decode cX5_meet 5 = .ok (.aload_n 0, 1) := by decide +kernel
theorem dX5_meet_6 : decode cX5_meet 6 = .ok (.iload_n 2, 1) := by decide +kernel
theorem dX5_meet_7 : decode cX5_meet 7 = .ok (.invokevirtual 132, 3) := by decide +kernel
theorem dX5_meet_10 : decode cX5_meet 10 = .ok (.iload_n 1, 1) := by decide +kernel
theorem dX5_meet_11 : decode cX5_meet 11 = .ok (.iload_n 2, 1) := by decide +kernel
theorem dX5_meet_12 : decode cX5_meet 12 = .ok (.if_icmp .ne 14, 3) := by decide +kernel
theorem dX5_meet_15 : decode cX5_meet 15 = .ok (.new 127, 3) := by decide +kernel
theorem dX5_meet_18 : decode cX5_meet 18 = .ok (.dup, 1) := by decide +kernel
theorem dX5_meet_19 : decode cX5_meet 19 = .ok (.ldc_w 279, 3) := by decide +kernel
theorem dX5_meet_22 : decode cX5_meet 22 = .ok (.invokespecial 131, 3) := by decide +kernel
theorem dX5_meet_25 : decode cX5_meet 25 = .ok (.athrow, 1) := by decide +kernel
theorem dX5_meet_26 : decode cX5_meet 26 = .ok (.aload_n 0, 1) := by decide +kernel
theorem dX5_meet_27 : decode cX5_meet 27 = .ok (.getfield 12, 3) := by decide +kernel
theorem dX5_meet_30 : decode cX5_meet 30 = .ok (.iload_n 1, 1) := by decide +kernel
theorem dX5_meet_31 : decode cX5_meet 31 = .ok (.iload_n 2, 1) := by decide +kernel
theorem dX5_meet_32 : decode cX5_meet 32 = .ok (.invokevirtual 244, 3) := by decide +kernel
theorem dX5_meet_35 : decode cX5_meet 35 = .ok (.ifCond .eq 6, 3) := by decide +kernel
theorem dX5_meet_38 : decode cX5_meet 38 = .ok (.bipush (-16), 2) := by decide +kernel
theorem dX5_meet_40 : decode cX5_meet 40 = .ok (.ireturn, 1) := by decide +kernel
theorem dX5_meet_41 : decode cX5_meet 41 = .ok (.aload_n 0, 1) := by decide +kernel
theorem dX5_meet_42 : decode cX5_meet 42 = .ok (.getfield 22, 3) := by decide +kernel
theorem dX5_meet_45 : decode cX5_meet 45 = .ok (.aload_n 0, 1) := by decide +kernel
theorem dX5_meet_46 : decode cX5_meet 46 = .ok (.getfield 12, 3) := by decide +kernel
theorem dX5_meet_49 : decode cX5_meet 49 = .ok (.invokevirtual 83, 3) := by decide +kernel
theorem dX5_meet_52 : decode cX5_meet 52 = .ok (.aload_n 0, 1) := by decide +kernel
theorem dX5_meet_53 : decode cX5_meet 53 = .ok (.getfield 12, 3) := by decide +kernel
theorem dX5_meet_56 : decode cX5_meet 56 = .ok (.iload_n 1, 1) := by decide +kernel
theorem dX5_meet_57 : decode cX5_meet 57 = .ok (.iload_n 2, 1) := by decide +kernel
theorem dX5_meet_58 : decode cX5_meet 58 = .ok (.invokevirtual 247, 3) := by decide +kernel
theorem dX5_meet_61 : decode cX5_meet 61 = .ok (.aload_n 0, 1) := by decide +kernel
theorem dX5_meet_62 : decode cX5_meet 62 = .ok (.getfield 12, 3) := by decide +kernel
theorem dX5_meet_65 : decode cX5_meet 65 = .ok (.invokevirtual 124, 3) := by decide +kernel
theorem dX5_meet_68 : decode cX5_meet 68 = .ok (.ireturn, 1) := by decide +kernel
theorem dX5_leave_0 : decode cX5_leave 0 = .ok (.aload_n 0, 1) := by decide +kernel
theorem dX5_leave_1 : decode cX5_leave 1 = .ok (.iload_n 1, 1) := by decide +kernel
theorem dX5_leave_2 : decode cX5_leave 2 = .ok (.invokevirtual 132, 3) := by decide +kernel
theorem dX5_leave_5 : decode cX5_leave 5 = .ok (.aload_n 0, 1) := by decide +kernel
theorem dX5_leave_6 : decode cX5_leave 6 = .ok (.getfield 12, 3) := by decide +kernel
theorem dX5_leave_9 : decode cX5_leave 9 = .ok (.getfield 99, 3) := by decide +kernel
theorem dX5_leave_12 : decode cX5_leave 12 = .ok (.iconst 2, 1) := by decide +kernel
theorem dX5_leave_13 : decode cX5_leave 13 = .ok (.if_icmp .gt 6, 3) := by decide +kernel
theorem dX5_leave_16 : decode cX5_leave 16 = .ok (.bipush (-17), 2) := by decide +kernel
theorem dX5_leave_18 : decode cX5_leave 18 = .ok (.ireturn, 1) := by decide +kernel
theorem dX5_leave_19 : decode cX5_leave 19 = .ok (.aload_n 0, 1) := by decide +kernel
theorem dX5_leave_20 : decode cX5_leave 20 = .ok (.getfield 22, 3) := by decide +kernel
theorem dX5_leave_23 : decode cX5_leave 23 = .ok (.aload_n 0, 1) := by decide +kernel
theorem dX5_leave_24 : decode cX5_leave 24 = .ok (.getfield 12, 3) := by decide +kernel
theorem dX5_leave_27 : decode cX5_leave 27 = .ok (.invokevirtual 83, 3) := by decide +kernel
theorem dX5_leave_30 : decode cX5_leave 30 = .ok (.aload_n 0, 1) := by decide +kernel
theorem dX5_leave_31 : decode cX5_leave 31 = .ok (.getfield 12, 3) := by decide +kernel
theorem dX5_leave_34 : decode cX5_leave 34 = .ok (.getfield 139, 3) := by decide +kernel
theorem dX5_leave_37 : decode cX5_leave 37 = .ok (.iload_n 1, 1) := by decide +kernel
theorem dX5_leave_38 : decode cX5_leave 38 = .ok (.iaload, 1) := by decide +kernel
theorem dX5_leave_39 : decode cX5_leave 39 = .ok (.istore_n 2, 1) := by decide +kernel
theorem dX5_leave_40 : decode cX5_leave 40 = .ok (.aload_n 0, 1) := by decide +kernel
theorem dX5_leave_41 : decode cX5_leave 41 = .ok (.getfield 12, 3) := by decide +kernel
theorem dX5_leave_44 : decode cX5_leave 44 = .ok (.iload_n 1, 1) := by decide +kernel
theorem dX5_leave_45 : decode cX5_leave 45 = .ok (.invokevirtual 281, 3) := by decide +kernel
theorem dX5_leave_48 : decode cX5_leave 48 = .ok (.iload_n 2, 1) := by decide +kernel
theorem dX5_leave_49 : decode cX5_leave 49 = .ok (.ireturn, 1) := by decide +kernel
theorem dX5_setPledge_0 : decode cX5_setPledge 0 = .ok (.aload_n 0, 1) := by decide +kernel
theorem dX5_setPledge_1 : decode cX5_setPledge 1 = .ok (.iload_n 1, 1) := by decide +kernel
theorem dX5_setPledge_2 : decode cX5_setPledge 2 = .ok (.invokevirtual 159, 3) := by decide +kernel
theorem dX5_setPledge_5 : decode cX5_setPledge 5 = .ok (.iload_n 2, 1) := by decide +kernel
theorem dX5_setPledge_6 : decode cX5_setPledge 6 = .ok (.iconst 1, 1) := by decide +kernel
theorem dX5_setPledge_7 : decode cX5_setPledge 7 = .ok (.if_icmp .lt 9, 3) := by decide +kernel
theorem dX5_setPledge_10 : decode cX5_setPledge 10 = .ok (.iload_n 2, 1) := by decide +kernel
theorem dX5_setPledge_11 : decode cX5_setPledge 11 = .ok (.bipush 10, 2) := by decide +kernel
theorem dX5_setPledge_13 : decode cX5_setPledge 13 = .ok (.if_icmp .le 14, 3) := by decide +kernel
theorem dX5_setPledge_16 : decode cX5_setPledge 16 = .ok (.new 127, 3) := by decide +kernel
theorem dX5_setPledge_19 : decode cX5_setPledge 19 = .ok (.dup, 1) := by decide +kernel
theorem dX5_setPledge_20 : decode cX5_setPledge 20 = .ok (.ldc_w 284, 3) := by decide +kernel
theorem dX5_setPledge_23 : decode cX5_setPledge 23 = .ok (.invokespecial 131, 3) := by decide +kernel
theorem dX5_setPledge_26 : decode cX5_setPledge 26 = .ok (.athrow, 1) := by decide +kernel
theorem dX5_setPledge_27 : decode cX5_setPledge 27 = .ok (.aload_n 0, 1) := by decide +kernel
theorem dX5_setPledge_28 : decode cX5_setPledge 28 = .ok (.getfield 22, 3) := by decide +kernel
theorem dX5_setPledge_31 : decode cX5_setPledge 31 = .ok (.aload_n 0, 1) := by decide +kernel
theorem dX5_setPledge_32 : decode cX5_setPledge 32 = .ok (.getfield 12, 3) := by decide +kernel
theorem dX5_setPledge_35 : decode cX5_setPledge 35 = .ok (.invokevirtual 83, 3) := by decide +kernel
theorem dX5_setPledge_38 : decode cX5_setPledge 38 = .ok (.aload_n 0, 1) := by decide +kernel
theorem dX5_setPledge_39 : decode cX5_setPledge 39 = .ok (.getfield 12, 3) := by decide +kernel
theorem dX5_setPledge_42 : decode cX5_setPledge 42 = .ok (.getfield 162, 3) := by decide +kernel
theorem dX5_setPledge_45 : decode cX5_setPledge 45 = .ok (.iload_n 1, 1) := by decide +kernel
theorem dX5_setPledge_46 : decode cX5_setPledge 46 = .ok (.iaload, 1) := by decide +kernel
theorem dX5_setPledge_47 : decode cX5_setPledge 47 = .ok (.istore_n 3, 1) := by decide +kernel
theorem dX5_setPledge_48 : decode cX5_setPledge 48 = .ok (.aload_n 0, 1) := by decide +kernel
theorem dX5_setPledge_49 : decode cX5_setPledge 49 = .ok (.getfield 12, 3) := by decide +kernel
theorem dX5_setPledge_52 : decode cX5_setPledge 52 = .ok (.getfield 162, 3) := by decide +kernel
theorem dX5_setPledge_55 : decode cX5_setPledge 55 = .ok (.iload_n 1, 1) := by decide +kernel
theorem dX5_setPledge_56 : decode cX5_setPledge 56 = .ok (.iload_n 2, 1) := by decide +kernel
theorem dX5_setPledge_57 : decode cX5_setPledge 57 = .ok (.iastore, 1) := by decide +kernel
theorem dX5_setPledge_58 : decode cX5_setPledge 58 = .ok (.iload_n 3, 1) := by decide +kernel
theorem dX5_setPledge_59 : decode cX5_setPledge 59 = .ok (.ireturn, 1) := by decide +kernel
theorem dX5_undo_0 : decode cX5_undo 0 = .ok (.aload_n 0, 1) := by decide +kernel
theorem dX5_undo_1 : decode cX5_undo 1 = .ok (.getfield 22, 3) := by decide +kernel
theorem dX5_undo_4 : decode cX5_undo 4 = .ok (.aload_n 0, 1) := by decide +kernel
theorem dX5_undo_5 : decode cX5_undo 5 = .ok (.getfield 12, 3) := by decide +kernel
theorem dX5_undo_8 : decode cX5_undo 8 = .ok (.invokevirtual 286, 3) := by decide +kernel
theorem dX5_undo_11 : decode cX5_undo 11 = .ok (.ifCond .ne 14, 3) := by decide +kernel
theorem dX5_undo_14 : decode cX5_undo 14 = .ok (.new 66, 3) := by decide +kernel
theorem dX5_undo_17 : decode cX5_undo 17 = .ok (.dup, 1) := by decide +kernel
theorem dX5_undo_18 : decode cX5_undo 18 = .ok (.ldc_w 289, 3) := by decide +kernel
theorem dX5_undo_21 : decode cX5_undo 21 = .ok (.invokespecial 70, 3) := by decide +kernel
theorem dX5_undo_24 : decode cX5_undo 24 = .ok (.athrow, 1) := by decide +kernel
theorem dX5_undo_25 : decode cX5_undo 25 = .ok (.aload_n 0, 1) := by decide +kernel
theorem dX5_undo_26 : decode cX5_undo 26 = .ok (.getfield 22, 3) := by decide +kernel
theorem dX5_undo_29 : decode cX5_undo 29 = .ok (.getfield 291, 3) := by decide +kernel
theorem dX5_undo_32 : decode cX5_undo 32 = .ok (.ireturn, 1) := by decide +kernel
theorem dX5_save_0 : decode cX5_save 0 = .ok (.iload_n 1, 1) := by decide +kernel
theorem dX5_save_1 : decode cX5_save 1 = .ok (.invokestatic 294, 3) := by decide +kernel
theorem dX5_save_4 : decode cX5_save 4 = .ok (.aload_n 0, 1) := by decide +kernel
theorem dX5_save_5 : decode cX5_save 5 = .ok (.getfield 26, 3) := by decide +kernel
theorem dX5_save_8 : decode cX5_save 8 = .ok (.iload_n 1, 1) := by decide +kernel
theorem dX5_save_9 : decode cX5_save 9 = .ok (.aaload, 1) := by decide +kernel
theorem dX5_save_10 : decode cX5_save 10 = .ok (.astore_n 2, 1) := by decide +kernel
theorem dX5_save_11 : decode cX5_save 11 = .ok (.aload_n 2, 1) := by decide +kernel
theorem dX5_save_12 : decode cX5_save 12 = .ok (.ifnonnull 18, 3) := by decide +kernel
theorem dX5_save_15 : decode cX5_save 15 = .ok (.new 9, 3) := by decide +kernel
theorem dX5_save_18 : decode cX5_save 18 = .ok (.dup, 1) := by decide +kernel
theorem dX5_save_19 : decode cX5_save 19 = .ok (.invokespecial 11, 3) := by decide +kernel
theorem dX5_save_22 : decode cX5_save 22 = .ok (.astore_n 2, 1) := by decide +kernel
theorem dX5_save_23 : decode cX5_save 23 = .ok (.aload_n 0, 1) := by decide +kernel
theorem dX5_save_24 : decode cX5_save 24 = .ok (.getfield 26, 3) := by decide +kernel
theorem dX5_save_27 : decode cX5_save 27 = .ok (.iload_n 1, 1) := by decide +kernel
theorem dX5_save_28 : decode cX5_save 28 = .ok (.aload_n 2, 1) := by decide +kernel
theorem dX5_save_29 : decode cX5_save 29 = .ok (.aastore, 1) := by decide +kernel
theorem dX5_save_30 : decode cX5_save 30 = .ok (.aload_n 2, 1) := by decide +kernel
theorem dX5_save_31 : decode cX5_save 31 = .ok (.aload_n 0, 1) := by decide +kernel
theorem dX5_save_32 : decode cX5_save 32 = .ok (.getfield 12, 3) := by decide +kernel
theorem dX5_save_35 : decode cX5_save 35 = .ok (.invokevirtual 87, 3) := by decide +kernel
theorem dX5_save_38 : decode cX5_save 38 = .ok (.return_, 1) := by decide +kernel
theorem dX5_restore_0 : decode cX5_restore 0 = .ok (.iload_n 1, 1) := by decide +kernel
theorem dX5_restore_1 : decode cX5_restore 1 = .ok (.invokestatic 294, 3) := by decide +kernel
theorem dX5_restore_4 : decode cX5_restore 4 = .ok (.aload_n 0, 1) := by decide +kernel
theorem dX5_restore_5 : decode cX5_restore 5 = .ok (.getfield 26, 3) := by decide +kernel
theorem dX5_restore_8 : decode cX5_restore 8 = .ok (.iload_n 1, 1) := by decide +kernel
theorem dX5_restore_9 : decode cX5_restore 9 = .ok (.aaload, 1) := by decide +kernel
theorem dX5_restore_10 : decode cX5_restore 10 = .ok (.astore_n 2, 1) := by decide +kernel
theorem dX5_restore_11 : decode cX5_restore 11 = .ok (.aload_n 2, 1) := by decide +kernel
theorem dX5_restore_12 : decode cX5_restore 12 = .ok (.ifnonnull 14, 3) := by decide +kernel
theorem dX5_restore_15 : decode cX5_restore 15 = .ok (.new 66, 3) := by decide +kernel
theorem dX5_restore_18 : decode cX5_restore 18 = .ok (.dup, 1) := by decide +kernel
theorem dX5_restore_19 : decode cX5_restore 19 = .ok (.ldc_w 297, 3) := by decide +kernel
theorem dX5_restore_22 : decode cX5_restore 22 = .ok (.invokespecial 70, 3) := by decide +kernel
theorem dX5_restore_25 : decode cX5_restore 25 = .ok (.athrow, 1) := by decide +kernel
theorem dX5_restore_26 : decode cX5_restore 26 = .ok (.aload_n 0, 1) := by decide +kernel
theorem dX5_restore_27 : decode cX5_restore 27 = .ok (.getfield 22, 3) := by decide +kernel
theorem dX5_restore_30 : decode cX5_restore 30 = .ok (.aload_n 0, 1) := by decide +kernel
theorem dX5_restore_31 : decode cX5_restore 31 = .ok (.getfield 12, 3) := by decide +kernel
theorem dX5_restore_34 : decode cX5_restore 34 = .ok (.invokevirtual 83, 3) := by decide +kernel
theorem dX5_restore_37 : decode cX5_restore 37 = .ok (.aload_n 0, 1) := by decide +kernel
theorem dX5_restore_38 : decode cX5_restore 38 = .ok (.getfield 12, 3) := by decide +kernel
theorem dX5_restore_41 : decode cX5_restore 41 = .ok (.aload_n 2, 1) := by decide +kernel
theorem dX5_restore_42 : decode cX5_restore 42 = .ok (.invokevirtual 87, 3) := by decide +kernel
theorem dX5_restore_45 : decode cX5_restore 45 = .ok (.aload_n 0, 1) := by decide +kernel
theorem dX5_restore_46 : decode cX5_restore 46 = .ok (.getfield 12, 3) := by decide +kernel
theorem dX5_restore_49 : decode cX5_restore 49 = .ok (.getfield 99, 3) := by decide +kernel
theorem dX5_restore_52 : decode cX5_restore 52 = .ok (.ireturn, 1) := by decide +kernel
theorem dX5_writePictures_0 : decode cX5_writePictures 0 = .ok (.aload_n 0, 1) := by decide +kernel
theorem dX5_writePictures_1 : decode cX5_writePictures 1 = .ok (.getfield 40, 3) := by decide +kernel
theorem dX5_writePictures_4 : decode cX5_writePictures 4 = .ok (.aload_n 0, 1) := by decide +kernel
theorem dX5_writePictures_5 : decode cX5_writePictures 5 = .ok (.getfield 12, 3) := by decide +kernel
theorem dX5_writePictures_8 : decode cX5_writePictures 8 = .ok (.invokevirtual 299, 3) := by decide +kernel
theorem dX5_writePictures_11 : decode cX5_writePictures 11 = .ok (.ireturn, 1) := by decide +kernel
theorem dX5_writtenByte_0 : decode cX5_writtenByte 0 = .ok (.iload_n 1, 1) := by decide +kernel
theorem dX5_writtenByte_1 : decode cX5_writtenByte 1 = .ok (.ifCond .lt 14, 3) := by decide +kernel
theorem dX5_writtenByte_4 : decode cX5_writtenByte 4 = .ok (.iload_n 1, 1) := by decide +kernel
theorem dX5_writtenByte_5 : decode cX5_writtenByte 5 = .ok (.aload_n 0, 1) := by decide +kernel
theorem dX5_writtenByte_6 : decode cX5_writtenByte 6 = .ok (.getfield 40, 3) := by decide +kernel
theorem dX5_writtenByte_9 : decode cX5_writtenByte 9 = .ok (.getfield 303, 3) := by decide +kernel
theorem dX5_writtenByte_12 : decode cX5_writtenByte 12 = .ok (.if_icmp .lt 14, 3) := by decide +kernel
theorem dX5_writtenByte_15 : decode cX5_writtenByte 15 = .ok (.new 253, 3) := by decide +kernel
theorem dX5_writtenByte_18 : decode cX5_writtenByte 18 = .ok (.dup, 1) := by decide +kernel
theorem dX5_writtenByte_19 : decode cX5_writtenByte 19 = .ok (.ldc_w 304, 3) := by decide +kernel
theorem dX5_writtenByte_22 : decode cX5_writtenByte 22 = .ok (.invokespecial 257, 3) := by decide +kernel
theorem dX5_writtenByte_25 : decode cX5_writtenByte 25 = .ok (.athrow, 1) := by decide +kernel
theorem dX5_writtenByte_26 : decode cX5_writtenByte 26 = .ok (.aload_n 0, 1) := by decide +kernel
theorem dX5_writtenByte_27 : decode cX5_writtenByte 27 = .ok (.getfield 40, 3) := by decide +kernel
theorem dX5_writtenByte_30 : decode cX5_writtenByte 30 = .ok (.getfield 306, 3) := by decide +kernel
theorem dX5_writtenByte_33 : decode cX5_writtenByte 33 = .ok (.iload_n 1, 1) := by decide +kernel
theorem dX5_writtenByte_34 : decode cX5_writtenByte 34 = .ok (.baload, 1) := by decide +kernel
theorem dX5_writtenByte_35 : decode cX5_writtenByte 35 = .ok (.ireturn, 1) := by decide +kernel
theorem dX5_bytesIn_0 : decode cX5_bytesIn 0 = .ok (.iconst 0, 1) := by decide +kernel
theorem dX5_bytesIn_1 : decode cX5_bytesIn 1 = .ok (.istore_n 1, 1) := by decide +kernel
theorem dX5_bytesIn_2 : decode cX5_bytesIn 2 = .ok (.iconst 0, 1) := by decide +kernel
theorem dX5_bytesIn_3 : decode cX5_bytesIn 3 = .ok (.istore_n 2, 1) := by decide +kernel
theorem dX5_bytesIn_4 : decode cX5_bytesIn 4 = .ok (.iload_n 2, 1) := by decide +kernel
theorem dX5_bytesIn_5 : decode cX5_bytesIn 5 = .ok (.iconst 4, 1) := by decide +kernel
theorem dX5_bytesIn_6 : decode cX5_bytesIn 6 = .ok (.if_icmp .ge 25, 3) := by decide +kernel
theorem dX5_bytesIn_9 : decode cX5_bytesIn 9 = .ok (.iload_n 0, 1) := by decide +kernel
theorem dX5_bytesIn_10 : decode cX5_bytesIn 10 = .ok (.bipush 8, 2) := by decide +kernel
theorem dX5_bytesIn_12 : decode cX5_bytesIn 12 = .ok (.iload_n 2, 1) := by decide +kernel
theorem dX5_bytesIn_13 : decode cX5_bytesIn 13 = .ok (.imul, 1) := by decide +kernel
theorem dX5_bytesIn_14 : decode cX5_bytesIn 14 = .ok (.iushr, 1) := by decide +kernel
theorem dX5_bytesIn_15 : decode cX5_bytesIn 15 = .ok (.sipush 255, 3) := by decide +kernel
theorem dX5_bytesIn_18 : decode cX5_bytesIn 18 = .ok (.iand, 1) := by decide +kernel
theorem dX5_bytesIn_19 : decode cX5_bytesIn 19 = .ok (.ifCond .eq 6, 3) := by decide +kernel
theorem dX5_bytesIn_22 : decode cX5_bytesIn 22 = .ok (.iinc 1 1, 3) := by decide +kernel
theorem dX5_bytesIn_25 : decode cX5_bytesIn 25 = .ok (.iinc 2 1, 3) := by decide +kernel
theorem dX5_bytesIn_28 : decode cX5_bytesIn 28 = .ok (.goto (-24), 3) := by decide +kernel
theorem dX5_bytesIn_31 : decode cX5_bytesIn 31 = .ok (.iload_n 1, 1) := by decide +kernel
theorem dX5_bytesIn_32 : decode cX5_bytesIn 32 = .ok (.ireturn, 1) := by decide +kernel
theorem dX5_needFamily_0 : decode cX5_needFamily 0 = .ok (.iload_n 1, 1) := by decide +kernel
theorem dX5_needFamily_1 : decode cX5_needFamily 1 = .ok (.ifCond .lt 14, 3) := by decide +kernel
theorem dX5_needFamily_4 : decode cX5_needFamily 4 = .ok (.iload_n 1, 1) := by decide +kernel
theorem dX5_needFamily_5 : decode cX5_needFamily 5 = .ok (.aload_n 0, 1) := by decide +kernel
theorem dX5_needFamily_6 : decode cX5_needFamily 6 = .ok (.getfield 12, 3) := by decide +kernel
theorem dX5_needFamily_9 : decode cX5_needFamily 9 = .ok (.getfield 99, 3) := by decide +kernel
theorem dX5_needFamily_12 : decode cX5_needFamily 12 = .ok (.if_icmp .lt 14, 3) := by decide +kernel
theorem dX5_needFamily_15 : decode cX5_needFamily 15 = .ok (.new 253, 3) := by decide +kernel
theorem dX5_needFamily_18 : decode cX5_needFamily 18 = .ok (.dup, 1) := by decide +kernel
theorem dX5_needFamily_19 : decode cX5_needFamily 19 = .ok (.ldc_w 310, 3) := by decide +kernel
theorem dX5_needFamily_22 : decode cX5_needFamily 22 = .ok (.invokespecial 257, 3) := by decide +kernel
theorem dX5_needFamily_25 : decode cX5_needFamily 25 = .ok (.athrow, 1) := by decide +kernel
theorem dX5_needFamily_26 : decode cX5_needFamily 26 = .ok (.return_, 1) := by decide +kernel
theorem dX5_needPicture_0 : decode cX5_needPicture 0 = .ok (.iload_n 1, 1) := by decide +kernel
theorem dX5_needPicture_1 : decode cX5_needPicture 1 = .ok (.ifCond .lt 14, 3) := by decide +kernel
theorem dX5_needPicture_4 : decode cX5_needPicture 4 = .ok (.iload_n 1, 1) := by decide +kernel
theorem dX5_needPicture_5 : decode cX5_needPicture 5 = .ok (.aload_n 0, 1) := by decide +kernel
theorem dX5_needPicture_6 : decode cX5_needPicture 6 = .ok (.getfield 12, 3) := by decide +kernel
theorem dX5_needPicture_9 : decode cX5_needPicture 9 = .ok (.getfield 90, 3) := by decide +kernel
theorem dX5_needPicture_12 : decode cX5_needPicture 12 = .ok (.if_icmp .lt 14, 3) := by decide +kernel
theorem dX5_needPicture_15 : decode cX5_needPicture 15 = .ok (.new 253, 3) := by decide +kernel
theorem dX5_needPicture_18 : decode cX5_needPicture 18 = .ok (.dup, 1) := by decide +kernel
theorem dX5_needPicture_19 : decode cX5_needPicture 19 = .ok (.ldc_w 312, 3) := by decide +kernel
theorem dX5_needPicture_22 : decode cX5_needPicture 22 = .ok (.invokespecial 257, 3) := by decide +kernel
theorem dX5_needPicture_25 : decode cX5_needPicture 25 = .ok (.athrow, 1) := by decide +kernel
theorem dX5_needPicture_26 : decode cX5_needPicture 26 = .ok (.return_, 1) := by decide +kernel
theorem dX5_needBoth_0 : decode cX5_needBoth 0 = .ok (.aload_n 0, 1) := by decide +kernel
theorem dX5_needBoth_1 : decode cX5_needBoth 1 = .ok (.iload_n 1, 1) := by decide +kernel
theorem dX5_needBoth_2 : decode cX5_needBoth 2 = .ok (.invokevirtual 159, 3) := by decide +kernel
theorem dX5_needBoth_5 : decode cX5_needBoth 5 = .ok (.aload_n 0, 1) := by decide +kernel
theorem dX5_needBoth_6 : decode cX5_needBoth 6 = .ok (.iload_n 2, 1) := by decide +kernel
theorem dX5_needBoth_7 : decode cX5_needBoth 7 = .ok (.invokevirtual 132, 3) := by decide +kernel
theorem dX5_needBoth_10 : decode cX5_needBoth 10 = .ok (.return_, 1) := by decide +kernel
theorem dX5_needSlot_0 : decode cX5_needSlot 0 = .ok (.iload_n 0, 1) := by decide +kernel
theorem dX5_needSlot_1 : decode cX5_needSlot 1 = .ok (.ifCond .lt 8, 3) := by decide +kernel
theorem dX5_needSlot_4 : decode cX5_needSlot 4 = .ok (.iload_n 0, 1) := by decide +kernel
theorem dX5_needSlot_5 : decode cX5_needSlot 5 = .ok (.iconst 2, 1) := by decide +kernel
theorem dX5_needSlot_6 : decode cX5_needSlot 6 = .ok (.if_icmp .lt 14, 3) := by decide +kernel
theorem dX5_needSlot_9 : decode cX5_needSlot 9 = .ok (.new 253, 3) := by decide +kernel
theorem dX5_needSlot_12 : decode cX5_needSlot 12 = .ok (.dup, 1) := by decide +kernel
theorem dX5_needSlot_13 : decode cX5_needSlot 13 = .ok (.ldc_w 314, 3) := by decide +kernel
theorem dX5_needSlot_16 : decode cX5_needSlot 16 = .ok (.invokespecial 257, 3) := by decide +kernel
theorem dX5_needSlot_19 : decode cX5_needSlot 19 = .ok (.athrow, 1) := by decide +kernel
theorem dX5_needSlot_20 : decode cX5_needSlot 20 = .ok (.return_, 1) := by decide +kernel
theorem dX5_needRoundNumber_0 : decode cX5_needRoundNumber 0 = .ok (.iload_n 0, 1) := by decide +kernel
theorem dX5_needRoundNumber_1 : decode cX5_needRoundNumber 1 = .ok (.ifCond .ge 14, 3) := by decide +kernel
theorem dX5_needRoundNumber_4 : decode cX5_needRoundNumber 4 = .ok (.new 127, 3) := by decide +kernel
theorem dX5_needRoundNumber_7 : decode cX5_needRoundNumber 7 = .ok (.dup, 1) := by decide +kernel
theorem dX5_needRoundNumber_8 : decode cX5_needRoundNumber 8 = .ok (.ldc_w 316, 3) := by decide +kernel
theorem dX5_needRoundNumber_11 : decode cX5_needRoundNumber 11 = .ok (.invokespecial 131, 3) := by decide +kernel
theorem dX5_needRoundNumber_14 : decode cX5_needRoundNumber 14 = .ok (.athrow, 1) := by decide +kernel
theorem dX5_needRoundNumber_15 : decode cX5_needRoundNumber 15 = .ok (.return_, 1) := by decide +kernel
end
section
theorem dX6_init_0 : decode cX6_init 0 = .ok (.aload_n 0, 1) := by decide +kernel
theorem dX6_init_1 : decode cX6_init 1 = .ok (.invokespecial 1, 3) := by decide +kernel
theorem dX6_init_4 : decode cX6_init 4 = .ok (.aload_n 0, 1) := by decide +kernel
theorem dX6_init_5 : decode cX6_init 5 = .ok (.sipush 353, 3) := by decide +kernel
theorem dX6_init_8 : decode cX6_init 8 = .ok (.newarray .int, 2) := by decide +kernel
theorem dX6_init_10 : decode cX6_init 10 = .ok (.putfield 7, 3) := by decide +kernel
theorem dX6_init_13 : decode cX6_init 13 = .ok (.aload_n 0, 1) := by decide +kernel
theorem dX6_init_14 : decode cX6_init 14 = .ok (.sipush 353, 3) := by decide +kernel
theorem dX6_init_17 : decode cX6_init 17 = .ok (.newarray .int, 2) := by decide +kernel
theorem dX6_init_19 : decode cX6_init 19 = .ok (.putfield 13, 3) := by decide +kernel
theorem dX6_init_22 : decode cX6_init 22 = .ok (.aload_n 0, 1) := by decide +kernel
theorem dX6_init_23 : decode cX6_init 23 = .ok (.sipush 353, 3) := by decide +kernel
theorem dX6_init_26 : decode cX6_init 26 = .ok (.newarray .int, 2) := by decide +kernel
theorem dX6_init_28 : decode cX6_init 28 = .ok (.putfield 16, 3) := by decide +kernel
theorem dX6_init_31 : decode cX6_init 31 = .ok (.aload_n 0, 1) := by decide +kernel
theorem dX6_init_32 : decode cX6_init 32 = .ok (.sipush 2824, 3) := by decide +kernel
theorem dX6_init_35 : decode cX6_init 35 = .ok (.newarray .int, 2) := by decide +kernel
theorem dX6_init_37 : decode cX6_init 37 = .ok (.putfield 19, 3) := by decide +kernel
theorem dX6_init_40 : decode cX6_init 40 = .ok (.aload_n 0, 1) := by decide +kernel
theorem dX6_init_41 : decode cX6_init 41 = .ok (.sipush 706, 3) := by decide +kernel
theorem dX6_init_44 : decode cX6_init 44 = .ok (.newarray .int, 2) := by decide +kernel
theorem dX6_init_46 : decode cX6_init 46 = .ok (.putfield 22, 3) := by decide +kernel
theorem dX6_init_49 : decode cX6_init 49 = .ok (.aload_n 0, 1) := by decide +kernel
theorem dX6_init_50 : decode cX6_init 50 = .ok (.iconst 2, 1) := by decide +kernel
theorem dX6_init_51 : decode cX6_init 51 = .ok (.newarray .boolean, 2) := by decide +kernel
theorem dX6_init_53 : decode cX6_init 53 = .ok (.putfield 25, 3) := by decide +kernel
theorem dX6_init_56 : decode cX6_init 56 = .ok (.aload_n 0, 1) := by decide +kernel
theorem dX6_init_57 : decode cX6_init 57 = .ok (.sipush 600, 3) := by decide +kernel
theorem dX6_init_60 : decode cX6_init 60 = .ok (.newarray .int, 2) := by decide +kernel
theorem dX6_init_62 : decode cX6_init 62 = .ok (.putfield 29, 3) := by decide +kernel
theorem dX6_init_65 : decode cX6_init 65 = .ok (.aload_n 0, 1) := by decide +kernel
theorem dX6_init_66 : decode cX6_init 66 = .ok (.iconst (-1), 1) := by decide +kernel
theorem dX6_init_67 : decode cX6_init 67 = .ok (.putfield 32, 3) := by decide +kernel
theorem dX6_init_70 : decode cX6_init 70 = .ok (.aload_n 0, 1) := by decide +kernel
theorem dX6_init_71 : decode cX6_init 71 = .ok (.bipush 120, 2) := by decide +kernel
theorem dX6_init_73 : decode cX6_init 73 = .ok (.newarray .int, 2) := by decide +kernel
theorem dX6_init_75 : decode cX6_init 75 = .ok (.putfield 36, 3) := by decide +kernel
theorem dX6_init_78 : decode cX6_init 78 = .ok (.aload_n 0, 1) := by decide +kernel
theorem dX6_init_79 : decode cX6_init 79 = .ok (.sipush 1500, 3) := by decide +kernel
theorem dX6_init_82 : decode cX6_init 82 = .ok (.newarray .int, 2) := by decide +kernel
theorem dX6_init_84 : decode cX6_init 84 = .ok (.putfield 39, 3) := by decide +kernel
theorem dX6_init_87 : decode cX6_init 87 = .ok (.aload_n 0, 1) := by decide +kernel
theorem dX6_init_88 : decode cX6_init 88 = .ok (.invokevirtual 42, 3) := by decide +kernel
theorem dX6_init_91 : decode cX6_init 91 = .ok (.aload_n 0, 1) := by decide +kernel
theorem dX6_init_92 : decode cX6_init 92 = .ok (.getfield 7, 3) := by decide +kernel
theorem dX6_init_95 : decode cX6_init 95 = .ok (.iconst 0, 1) := by decide +kernel
theorem dX6_init_96 : decode cX6_init 96 = .ok (.iconst 4, 1) := by decide +kernel
theorem dX6_init_97 : decode cX6_init 97 = .ok (.iastore, 1) := by decide +kernel
theorem dX6_init_98 : decode cX6_init 98 = .ok (.aload_n 0, 1) := by decide +kernel
theorem dX6_init_99 : decode cX6_init 99 = .ok (.getfield 7, 3) := by decide +kernel
theorem dX6_init_102 : decode cX6_init 102 = .ok (.iconst 1, 1) := by decide +kernel
theorem dX6_init_103 : decode cX6_init 103 = .ok (.iconst 2, 1) := by decide +kernel
theorem dX6_init_104 : decode cX6_init 104 = .ok (.iastore, 1) := by decide +kernel
theorem dX6_init_105 : decode cX6_init 105 = .ok (.iconst 0, 1) := by decide +kernel
theorem dX6_init_106 : decode cX6_init 106 = .ok (.istore_n 1, 1) := by decide +kernel
theorem dX6_init_107 : decode cX6_init 107 = .ok (.iload_n 1, 1) := by decide +kernel
theorem dX6_init_108 : decode cX6_init 108 = .ok (.iconst 2, 1) := by decide +kernel
theorem dX6_init_109 : decode cX6_init 109 = .ok (.if_icmp .ge 26, 3) := by decide +kernel
theorem dX6_init_112 : decode cX6_init 112 = .ok (.aload_n 0, 1) := by decide +kernel
theorem dX6_init_113 : decode cX6_init 113 = .ok (.iload_n 1, 1) := by decide +kernel
theorem dX6_init_114 : decode cX6_init 114 = .ok (.iconst 0, 1) := by decide +kernel
theorem dX6_init_115 : decode cX6_init 115 = .ok (.iconst 1, 1) := by decide +kernel
theorem dX6_init_116 : decode cX6_init 116 = .ok (.invokevirtual 45, 3) := by decide +kernel
theorem dX6_init_119 : decode cX6_init 119 = .ok (.aload_n 0, 1) := by decide +kernel
theorem dX6_init_120 : decode cX6_init 120 = .ok (.iload_n 1, 1) := by decide +kernel
theorem dX6_init_121 : decode cX6_init 121 = .ok (.iconst 4, 1) := by decide +kernel
theorem dX6_init_122 : decode cX6_init 122 = .ok (.bipush 97, 2) := by decide +kernel
theorem dX6_init_124 : decode cX6_init 124 = .ok (.iload_n 1, 1) := by decide +kernel
theorem dX6_init_125 : decode cX6_init 125 = .ok (.iadd, 1) := by decide +kernel
theorem dX6_init_126 : decode cX6_init 126 = .ok (.invokevirtual 45, 3) := by decide +kernel
theorem dX6_init_129 : decode cX6_init 129 = .ok (.iinc 1 1, 3) := by decide +kernel
theorem dX6_init_132 : decode cX6_init 132 = .ok (.goto (-25), 3) := by decide +kernel
theorem dX6_init_135 : decode cX6_init 135 = .ok (.return_, 1) := by decide +kernel
theorem dX6_begins_0 : decode cX6_begins 0 = .ok (.iconst 0, 1) := by decide +kernel
theorem dX6_begins_1 : decode cX6_begins 1 = .ok (.istore_n 1, 1) := by decide +kernel
theorem dX6_begins_2 : decode cX6_begins 2 = .ok (.iload_n 1, 1) := by decide +kernel
theorem dX6_begins_3 : decode cX6_begins 3 = .ok (.sipush 353, 3) := by decide +kernel
theorem dX6_begins_6 : decode cX6_begins 6 = .ok (.if_icmp .ge 16, 3) := by decide +kernel
theorem dX6_begins_9 : decode cX6_begins 9 = .ok (.aload_n 0, 1) := by decide +kernel
theorem dX6_begins_10 : decode cX6_begins 10 = .ok (.getfield 7, 3) := by decide +kernel
theorem dX6_begins_13 : decode cX6_begins 13 = .ok (.iload_n 1, 1) := by decide +kernel
theorem dX6_begins_14 : decode cX6_begins 14 = .ok (.iconst 0, 1) := by decide +kernel
theorem dX6_begins_15 : decode cX6_begins 15 = .ok (.iastore, 1) := by decide +kernel
theorem dX6_begins_16 : decode cX6_begins 16 = .ok (.iinc 1 1, 3) := by decide +kernel
theorem dX6_begins_19 : decode cX6_begins 19 = .ok (.goto (-17), 3) := by decide +kernel
theorem dX6_begins_22 : decode cX6_begins 22 = .ok (.return_, 1) := by decide +kernel
theorem dX6_thrown_0 : decode cX6_thrown 0 = .ok (.aload_n 0, 1) := by decide +kernel
theorem dX6_thrown_1 : decode cX6_thrown 1 = .ok (.getfield 49, 3) := by decide +kernel
theorem dX6_thrown_4 : decode cX6_thrown 4 = .ok (.ireturn, 1) := by decide +kernel
theorem dX6_isIn_0 : decode cX6_isIn 0 = .ok (.iload_n 0, 1) := by decide +kernel
theorem dX6_isIn_1 : decode cX6_isIn 1 = .ok (.iload_n 1, 1) := by decide +kernel
theorem dX6_isIn_2 : decode cX6_isIn 2 = .ok (.if_icmp .lt 12, 3) := by decide +kernel
theorem dX6_isIn_5 : decode cX6_isIn 5 = .ok (.iload_n 0, 1) := by decide +kernel
theorem dX6_isIn_6 : decode cX6_isIn 6 = .ok (.iload_n 2, 1) := by decide +kernel
theorem dX6_isIn_7 : decode cX6_isIn 7 = .ok (.if_icmp .gt 7, 3) := by decide +kernel
theorem dX6_isIn_10 : decode cX6_isIn 10 = .ok (.iconst 1, 1) := by decide +kernel
theorem dX6_isIn_11 : decode cX6_isIn 11 = .ok (.goto 4, 3) := by decide +kernel
theorem dX6_isIn_14 : decode cX6_isIn 14 = .ok (.iconst 0, 1) := by decide +kernel
theorem dX6_isIn_15 : decode cX6_isIn 15 = .ok (.ireturn, 1) := by decide +kernel
theorem dX6_copies_0 : decode cX6_copies 0 = .ok (.iconst 0, 1) := by decide +kernel
theorem dX6_copies_1 : decode cX6_copies 1 = .ok (.istore 4, 2) := by decide +kernel
theorem dX6_copies_3 : decode cX6_copies 3 = .ok (.iload 4, 2) := by decide +kernel
theorem dX6_copies_5 : decode cX6_copies 5 = .ok (.sipush 353, 3) := by decide +kernel
theorem dX6_copies_8 : decode cX6_copies 8 = .ok (.if_icmp .ge 21, 3) := by decide +kernel
theorem dX6_copies_11 : decode cX6_copies 11 = .ok (.aload_n 0, 1) := by decide +kernel
theorem dX6_copies_12 : decode cX6_copies 12 = .ok (.iload_n 1, 1) := by decide +kernel
theorem dX6_copies_13 : decode cX6_copies 13 = .ok (.iload 4, 2) := by decide +kernel
theorem dX6_copies_15 : decode cX6_copies 15 = .ok (.iadd, 1) := by decide +kernel
theorem dX6_copies_16 : decode cX6_copies 16 = .ok (.aload_n 2, 1) := by decide +kernel
theorem dX6_copies_17 : decode cX6_copies 17 = .ok (.iload_n 3, 1) := by decide +kernel
theorem dX6_copies_18 : decode cX6_copies 18 = .ok (.iload 4, 2) := by decide +kernel
theorem dX6_copies_20 : decode cX6_copies 20 = .ok (.iadd, 1) := by decide +kernel
theorem dX6_copies_21 : decode cX6_copies 21 = .ok (.iaload, 1) := by decide +kernel
theorem dX6_copies_22 : decode cX6_copies 22 = .ok (.iastore, 1) := by decide +kernel
theorem dX6_copies_23 : decode cX6_copies 23 = .ok (.iinc 4 1, 3) := by decide +kernel
theorem dX6_copies_26 : decode cX6_copies 26 = .ok (.goto (-23), 3) := by decide +kernel
theorem dX6_copies_29 : decode cX6_copies 29 = .ok (.return_, 1) := by decide +kernel
theorem dX6_keeps_0 : decode cX6_keeps 0 = .ok (.aload_n 0, 1) := by decide +kernel
theorem dX6_keeps_1 : decode cX6_keeps 1 = .ok (.getfield 52, 3) := by decide +kernel
theorem dX6_keeps_4 : decode cX6_keeps 4 = .ok (.bipush 8, 2) := by decide +kernel
theorem dX6_keeps_6 : decode cX6_keeps 6 = .ok (.if_icmp .ne 44, 3) := by decide +kernel
theorem dX6_keeps_9 : decode cX6_keeps 9 = .ok (.iconst 0, 1) := by decide +kernel
theorem dX6_keeps_10 : decode cX6_keeps 10 = .ok (.istore_n 2, 1) := by decide +kernel
theorem dX6_keeps_11 : decode cX6_keeps 11 = .ok (.iload_n 2, 1) := by decide +kernel
theorem dX6_keeps_12 : decode cX6_keeps 12 = .ok (.sipush 2471, 3) := by decide +kernel
theorem dX6_keeps_15 : decode cX6_keeps 15 = .ok (.if_icmp .ge 25, 3) := by decide +kernel
theorem dX6_keeps_18 : decode cX6_keeps 18 = .ok (.aload_n 0, 1) := by decide +kernel
theorem dX6_keeps_19 : decode cX6_keeps 19 = .ok (.getfield 19, 3) := by decide +kernel
theorem dX6_keeps_22 : decode cX6_keeps 22 = .ok (.iload_n 2, 1) := by decide +kernel
theorem dX6_keeps_23 : decode cX6_keeps 23 = .ok (.aload_n 0, 1) := by decide +kernel
theorem dX6_keeps_24 : decode cX6_keeps 24 = .ok (.getfield 19, 3) := by decide +kernel
theorem dX6_keeps_27 : decode cX6_keeps 27 = .ok (.iload_n 2, 1) := by decide +kernel
theorem dX6_keeps_28 : decode cX6_keeps 28 = .ok (.sipush 353, 3) := by decide +kernel
theorem dX6_keeps_31 : decode cX6_keeps 31 = .ok (.iadd, 1) := by decide +kernel
theorem dX6_keeps_32 : decode cX6_keeps 32 = .ok (.iaload, 1) := by decide +kernel
theorem dX6_keeps_33 : decode cX6_keeps 33 = .ok (.iastore, 1) := by decide +kernel
theorem dX6_keeps_34 : decode cX6_keeps 34 = .ok (.iinc 2 1, 3) := by decide +kernel
theorem dX6_keeps_37 : decode cX6_keeps 37 = .ok (.goto (-26), 3) := by decide +kernel
theorem dX6_keeps_40 : decode cX6_keeps 40 = .ok (.aload_n 0, 1) := by decide +kernel
theorem dX6_keeps_41 : decode cX6_keeps 41 = .ok (.dup, 1) := by decide +kernel
theorem dX6_keeps_42 : decode cX6_keeps 42 = .ok (.getfield 52, 3) := by decide +kernel
theorem dX6_keeps_45 : decode cX6_keeps 45 = .ok (.iconst 1, 1) := by decide +kernel
theorem dX6_keeps_46 : decode cX6_keeps 46 = .ok (.isub, 1) := by decide +kernel
theorem dX6_keeps_47 : decode cX6_keeps 47 = .ok (.putfield 52, 3) := by decide +kernel
theorem dX6_keeps_50 : decode cX6_keeps 50 = .ok (.aload_n 0, 1) := by decide +kernel
theorem dX6_keeps_51 : decode cX6_keeps 51 = .ok (.getfield 19, 3) := by decide +kernel
theorem dX6_keeps_54 : decode cX6_keeps 54 = .ok (.sipush 353, 3) := by decide +kernel
theorem dX6_keeps_57 : decode cX6_keeps 57 = .ok (.aload_n 0, 1) := by decide +kernel
theorem dX6_keeps_58 : decode cX6_keeps 58 = .ok (.getfield 52, 3) := by decide +kernel
theorem dX6_keeps_61 : decode cX6_keeps 61 = .ok (.imul, 1) := by decide +kernel
theorem dX6_keeps_62 : decode cX6_keeps 62 = .ok (.aload_n 1, 1) := by decide +kernel
theorem dX6_keeps_63 : decode cX6_keeps 63 = .ok (.iconst 0, 1) := by decide +kernel
theorem dX6_keeps_64 : decode cX6_keeps 64 = .ok (.invokestatic 55, 3) := by decide +kernel
theorem dX6_keeps_67 : decode cX6_keeps 67 = .ok (.aload_n 0, 1) := by decide +kernel
theorem dX6_keeps_68 : decode cX6_keeps 68 = .ok (.dup, 1) := by decide +kernel
theorem dX6_keeps_69 : decode cX6_keeps 69 = .ok (.getfield 52, 3) := by decide +kernel
theorem dX6_keeps_72 : decode cX6_keeps 72 = .ok (.iconst 1, 1) := by decide +kernel
theorem dX6_keeps_73 : decode cX6_keeps 73 = .ok (.iadd, 1) := by decide +kernel
theorem dX6_keeps_74 : decode cX6_keeps 74 = .ok (.putfield 52, 3) := by decide +kernel
theorem dX6_keeps_77 : decode cX6_keeps 77 = .ok (.return_, 1) := by decide +kernel
theorem dX6_undo_0 : decode cX6_undo 0 = .ok (.aload_n 0, 1) := by decide +kernel
theorem dX6_undo_1 : decode cX6_undo 1 = .ok (.aload_n 0, 1) := by decide +kernel
theorem dX6_undo_2 : decode cX6_undo 2 = .ok (.getfield 52, 3) := by decide +kernel
theorem dX6_undo_5 : decode cX6_undo 5 = .ok (.ifCond .ne 7, 3) := by decide +kernel
theorem dX6_undo_8 : decode cX6_undo 8 = .ok (.iconst 1, 1) := by decide +kernel
theorem dX6_undo_9 : decode cX6_undo 9 = .ok (.goto 4, 3) := by decide +kernel
theorem dX6_undo_12 : decode cX6_undo 12 = .ok (.iconst 0, 1) := by decide +kernel
theorem dX6_undo_13 : decode cX6_undo 13 = .ok (.putfield 49, 3) := by decide +kernel
theorem dX6_undo_16 : decode cX6_undo 16 = .ok (.aload_n 0, 1) := by decide +kernel
theorem dX6_undo_17 : decode cX6_undo 17 = .ok (.getfield 49, 3) := by decide +kernel
theorem dX6_undo_20 : decode cX6_undo 20 = .ok (.ifCond .le 5, 3) := by decide +kernel
theorem dX6_undo_23 : decode cX6_undo 23 = .ok (.iconst 0, 1) := by decide +kernel
theorem dX6_undo_24 : decode cX6_undo 24 = .ok (.ireturn, 1) := by decide +kernel
theorem dX6_undo_25 : decode cX6_undo 25 = .ok (.aload_n 0, 1) := by decide +kernel
theorem dX6_undo_26 : decode cX6_undo 26 = .ok (.dup, 1) := by decide +kernel
theorem dX6_undo_27 : decode cX6_undo 27 = .ok (.getfield 52, 3) := by decide +kernel
theorem dX6_undo_30 : decode cX6_undo 30 = .ok (.iconst 1, 1) := by decide +kernel
theorem dX6_undo_31 : decode cX6_undo 31 = .ok (.isub, 1) := by decide +kernel
theorem dX6_undo_32 : decode cX6_undo 32 = .ok (.putfield 52, 3) := by decide +kernel
theorem dX6_undo_35 : decode cX6_undo 35 = .ok (.aload_n 0, 1) := by decide +kernel
theorem dX6_undo_36 : decode cX6_undo 36 = .ok (.getfield 7, 3) := by decide +kernel
theorem dX6_undo_39 : decode cX6_undo 39 = .ok (.iconst 0, 1) := by decide +kernel
theorem dX6_undo_40 : decode cX6_undo 40 = .ok (.aload_n 0, 1) := by decide +kernel
theorem dX6_undo_41 : decode cX6_undo 41 = .ok (.getfield 19, 3) := by decide +kernel
theorem dX6_undo_44 : decode cX6_undo 44 = .ok (.sipush 353, 3) := by decide +kernel
theorem dX6_undo_47 : decode cX6_undo 47 = .ok (.aload_n 0, 1) := by decide +kernel
theorem dX6_undo_48 : decode cX6_undo 48 = .ok (.getfield 52, 3) := by decide +kernel
theorem dX6_undo_51 : decode cX6_undo 51 = .ok (.imul, 1) := by decide +kernel
theorem dX6_undo_52 : decode cX6_undo 52 = .ok (.invokestatic 55, 3) := by decide +kernel
theorem dX6_undo_55 : decode cX6_undo 55 = .ok (.aload_n 0, 1) := by decide +kernel
theorem dX6_undo_56 : decode cX6_undo 56 = .ok (.getfield 52, 3) := by decide +kernel
theorem dX6_undo_59 : decode cX6_undo 59 = .ok (.ireturn, 1) := by decide +kernel
theorem dX6_save_0 : decode cX6_save 0 = .ok (.aload_n 0, 1) := by decide +kernel
theorem dX6_save_1 : decode cX6_save 1 = .ok (.iload_n 1, 1) := by decide +kernel
theorem dX6_save_2 : decode cX6_save 2 = .ok (.iconst 0, 1) := by decide +kernel
theorem dX6_save_3 : decode cX6_save 3 = .ok (.iconst 1, 1) := by decide +kernel
theorem dX6_save_4 : decode cX6_save 4 = .ok (.invokestatic 59, 3) := by decide +kernel
theorem dX6_save_7 : decode cX6_save 7 = .ok (.ifCond .eq 7, 3) := by decide +kernel
theorem dX6_save_10 : decode cX6_save 10 = .ok (.iconst 0, 1) := by decide +kernel
theorem dX6_save_11 : decode cX6_save 11 = .ok (.goto 4, 3) := by decide +kernel
theorem dX6_save_14 : decode cX6_save 14 = .ok (.iconst 1, 1) := by decide +kernel
theorem dX6_save_15 : decode cX6_save 15 = .ok (.putfield 49, 3) := by decide +kernel
theorem dX6_save_18 : decode cX6_save 18 = .ok (.aload_n 0, 1) := by decide +kernel
theorem dX6_save_19 : decode cX6_save 19 = .ok (.getfield 49, 3) := by decide +kernel
theorem dX6_save_22 : decode cX6_save 22 = .ok (.ifCond .le 4, 3) := by decide +kernel
theorem dX6_save_25 : decode cX6_save 25 = .ok (.return_, 1) := by decide +kernel
theorem dX6_save_26 : decode cX6_save 26 = .ok (.aload_n 0, 1) := by decide +kernel
theorem dX6_save_27 : decode cX6_save 27 = .ok (.getfield 22, 3) := by decide +kernel
theorem dX6_save_30 : decode cX6_save 30 = .ok (.sipush 353, 3) := by decide +kernel
theorem dX6_save_33 : decode cX6_save 33 = .ok (.iload_n 1, 1) := by decide +kernel
theorem dX6_save_34 : decode cX6_save 34 = .ok (.imul, 1) := by decide +kernel
theorem dX6_save_35 : decode cX6_save 35 = .ok (.aload_n 0, 1) := by decide +kernel
theorem dX6_save_36 : decode cX6_save 36 = .ok (.getfield 7, 3) := by decide +kernel
theorem dX6_save_39 : decode cX6_save 39 = .ok (.iconst 0, 1) := by decide +kernel
theorem dX6_save_40 : decode cX6_save 40 = .ok (.invokestatic 55, 3) := by decide +kernel
theorem dX6_save_43 : decode cX6_save 43 = .ok (.aload_n 0, 1) := by decide +kernel
theorem dX6_save_44 : decode cX6_save 44 = .ok (.getfield 25, 3) := by decide +kernel
theorem dX6_save_47 : decode cX6_save 47 = .ok (.iload_n 1, 1) := by decide +kernel
theorem dX6_save_48 : decode cX6_save 48 = .ok (.iconst 1, 1) := by decide +kernel
theorem dX6_save_49 : decode cX6_save 49 = .ok (.bastore, 1) := by decide +kernel
theorem dX6_save_50 : decode cX6_save 50 = .ok (.return_, 1) := by decide +kernel
theorem dX6_restore_0 : decode cX6_restore 0 = .ok (.aload_n 0, 1) := by decide +kernel
theorem dX6_restore_1 : decode cX6_restore 1 = .ok (.iload_n 1, 1) := by decide +kernel
theorem dX6_restore_2 : decode cX6_restore 2 = .ok (.iconst 0, 1) := by decide +kernel
theorem dX6_restore_3 : decode cX6_restore 3 = .ok (.iconst 1, 1) := by decide +kernel
theorem dX6_restore_4 : decode cX6_restore 4 = .ok (.invokestatic 59, 3) := by decide +kernel
theorem dX6_restore_7 : decode cX6_restore 7 = .ok (.ifCond .ne 7, 3) := by decide +kernel
theorem dX6_restore_10 : decode cX6_restore 10 = .ok (.iconst 1, 1) := by decide +kernel
theorem dX6_restore_11 : decode cX6_restore 11 = .ok (.goto 17, 3) := by decide +kernel
theorem dX6_restore_14 : decode cX6_restore 14 = .ok (.aload_n 0, 1) := by decide +kernel
theorem dX6_restore_15 : decode cX6_restore 15 = .ok (.getfield 25, 3) := by decide +kernel
theorem dX6_restore_18 : decode cX6_restore 18 = .ok (.iload_n 1, 1) := by decide +kernel
theorem dX6_restore_19 : decode cX6_restore 19 = .ok (.baload, 1) := by decide +kernel
theorem dX6_restore_20 : decode cX6_restore 20 = .ok (.ifCond .eq 7, 3) := by decide +kernel
theorem dX6_restore_23 : decode cX6_restore 23 = .ok (.iconst 0, 1) := by decide +kernel
theorem dX6_restore_24 : decode cX6_restore 24 = .ok (.goto 4, 3) := by decide +kernel
theorem dX6_restore_27 : decode cX6_restore 27 = .ok (.iconst 2, 1) := by decide +kernel
theorem dX6_restore_28 : decode cX6_restore 28 = .ok (.putfield 49, 3) := by decide +kernel
theorem dX6_restore_31 : decode cX6_restore 31 = .ok (.aload_n 0, 1) := by decide +kernel
theorem dX6_restore_32 : decode cX6_restore 32 = .ok (.getfield 49, 3) := by decide +kernel
theorem dX6_restore_35 : decode cX6_restore 35 = .ok (.ifCond .le 5, 3) := by decide +kernel
theorem dX6_restore_38 : decode cX6_restore 38 = .ok (.iconst 0, 1) := by decide +kernel
theorem dX6_restore_39 : decode cX6_restore 39 = .ok (.ireturn, 1) := by decide +kernel
theorem dX6_restore_40 : decode cX6_restore 40 = .ok (.aload_n 0, 1) := by decide +kernel
theorem dX6_restore_41 : decode cX6_restore 41 = .ok (.aload_n 0, 1) := by decide +kernel
theorem dX6_restore_42 : decode cX6_restore 42 = .ok (.getfield 7, 3) := by decide +kernel
theorem dX6_restore_45 : decode cX6_restore 45 = .ok (.invokevirtual 63, 3) := by decide +kernel
theorem dX6_restore_48 : decode cX6_restore 48 = .ok (.aload_n 0, 1) := by decide +kernel
theorem dX6_restore_49 : decode cX6_restore 49 = .ok (.getfield 7, 3) := by decide +kernel
theorem dX6_restore_52 : decode cX6_restore 52 = .ok (.iconst 0, 1) := by decide +kernel
theorem dX6_restore_53 : decode cX6_restore 53 = .ok (.aload_n 0, 1) := by decide +kernel
theorem dX6_restore_54 : decode cX6_restore 54 = .ok (.getfield 22, 3) := by decide +kernel
theorem dX6_restore_57 : decode cX6_restore 57 = .ok (.sipush 353, 3) := by decide +kernel
theorem dX6_restore_60 : decode cX6_restore 60 = .ok (.iload_n 1, 1) := by decide +kernel
theorem dX6_restore_61 : decode cX6_restore 61 = .ok (.imul, 1) := by decide +kernel
theorem dX6_restore_62 : decode cX6_restore 62 = .ok (.invokestatic 55, 3) := by decide +kernel
theorem dX6_restore_65 : decode cX6_restore 65 = .ok (.aload_n 0, 1) := by decide +kernel
theorem dX6_restore_66 : decode cX6_restore 66 = .ok (.invokevirtual 67, 3) := by decide +kernel
theorem dX6_restore_69 : decode cX6_restore 69 = .ok (.ireturn, 1) := by decide +kernel
theorem dX6_byteOf_0 : decode cX6_byteOf 0 = .ok (.iload_n 0, 1) := by decide +kernel
theorem dX6_byteOf_1 : decode cX6_byteOf 1 = .ok (.iconst 4, 1) := by decide +kernel
theorem dX6_byteOf_2 : decode cX6_byteOf 2 = .ok (.if_icmp .ge 7, 3) := by decide +kernel
theorem dX6_byteOf_5 : decode cX6_byteOf 5 = .ok (.iload_n 1, 1) := by decide +kernel
theorem dX6_byteOf_6 : decode cX6_byteOf 6 = .ok (.goto 36, 3) := by decide +kernel
theorem dX6_byteOf_9 : decode cX6_byteOf 9 = .ok (.iload_n 0, 1) := by decide +kernel
theorem dX6_byteOf_10 : decode cX6_byteOf 10 = .ok (.bipush 8, 2) := by decide +kernel
theorem dX6_byteOf_12 : decode cX6_byteOf 12 = .ok (.if_icmp .ge 7, 3) := by decide +kernel
theorem dX6_byteOf_15 : decode cX6_byteOf 15 = .ok (.iload_n 2, 1) := by decide +kernel
theorem dX6_byteOf_16 : decode cX6_byteOf 16 = .ok (.goto 26, 3) := by decide +kernel
theorem dX6_byteOf_19 : decode cX6_byteOf 19 = .ok (.iload_n 0, 1) := by decide +kernel
theorem dX6_byteOf_20 : decode cX6_byteOf 20 = .ok (.bipush 12, 2) := by decide +kernel
theorem dX6_byteOf_22 : decode cX6_byteOf 22 = .ok (.if_icmp .ge 7, 3) := by decide +kernel
theorem dX6_byteOf_25 : decode cX6_byteOf 25 = .ok (.iload_n 3, 1) := by decide +kernel
theorem dX6_byteOf_26 : decode cX6_byteOf 26 = .ok (.goto 16, 3) := by decide +kernel
theorem dX6_byteOf_29 : decode cX6_byteOf 29 = .ok (.iload_n 0, 1) := by decide +kernel
theorem dX6_byteOf_30 : decode cX6_byteOf 30 = .ok (.bipush 16, 2) := by decide +kernel
theorem dX6_byteOf_32 : decode cX6_byteOf 32 = .ok (.if_icmp .ge 8, 3) := by decide +kernel
theorem dX6_byteOf_35 : decode cX6_byteOf 35 = .ok (.iload 4, 2) := by decide +kernel
theorem dX6_byteOf_37 : decode cX6_byteOf 37 = .ok (.goto 5, 3) := by decide +kernel
theorem dX6_byteOf_40 : decode cX6_byteOf 40 = .ok (.iload 5, 2) := by decide +kernel
theorem dX6_byteOf_42 : decode cX6_byteOf 42 = .ok (.istore 6, 2) := by decide +kernel
theorem dX6_byteOf_44 : decode cX6_byteOf 44 = .ok (.iload 6, 2) := by decide +kernel
theorem dX6_byteOf_46 : decode cX6_byteOf 46 = .ok (.bipush 24, 2) := by decide +kernel
theorem dX6_byteOf_48 : decode cX6_byteOf 48 = .ok (.bipush 8, 2) := by decide +kernel
theorem dX6_byteOf_50 : decode cX6_byteOf 50 = .ok (.iload_n 0, 1) := by decide +kernel
theorem dX6_byteOf_51 : decode cX6_byteOf 51 = .ok (.iconst 4, 1) := by decide +kernel
theorem dX6_byteOf_52 : decode cX6_byteOf 52 = .ok (.irem, 1) := by decide +kernel
theorem dX6_byteOf_53 : decode cX6_byteOf 53 = .ok (.imul, 1) := by decide +kernel
theorem dX6_byteOf_54 : decode cX6_byteOf 54 = .ok (.isub, 1) := by decide +kernel
theorem dX6_byteOf_55 : decode cX6_byteOf 55 = .ok (.ishr, 1) := by decide +kernel
theorem dX6_byteOf_56 : decode cX6_byteOf 56 = .ok (.sipush 255, 3) := by decide +kernel
theorem dX6_byteOf_59 : decode cX6_byteOf 59 = .ok (.iand, 1) := by decide +kernel
theorem dX6_byteOf_60 : decode cX6_byteOf 60 = .ok (.ireturn, 1) := by decide +kernel
theorem dX6_append_0 : decode cX6_append 0 = .ok (.iconst 0, 1) := by decide +kernel
theorem dX6_append_1 : decode cX6_append 1 = .ok (.istore 6, 2) := by decide +kernel
theorem dX6_append_3 : decode cX6_append 3 = .ok (.iconst 0, 1) := by decide +kernel
theorem dX6_append_4 : decode cX6_append 4 = .ok (.istore 7, 2) := by decide +kernel
theorem dX6_append_6 : decode cX6_append 6 = .ok (.iload 7, 2) := by decide +kernel
theorem dX6_append_8 : decode cX6_append 8 = .ok (.bipush 20, 2) := by decide +kernel
theorem dX6_append_10 : decode cX6_append 10 = .ok (.if_icmp .ge 34, 3) := by decide +kernel
theorem dX6_append_13 : decode cX6_append 13 = .ok (.iload 6, 2) := by decide +kernel
theorem dX6_append_15 : decode cX6_append 15 = .ok (.iload 7, 2) := by decide +kernel
theorem dX6_append_17 : decode cX6_append 17 = .ok (.iload_n 1, 1) := by decide +kernel
theorem dX6_append_18 : decode cX6_append 18 = .ok (.iload_n 2, 1) := by decide +kernel
theorem dX6_append_19 : decode cX6_append 19 = .ok (.iload_n 3, 1) := by decide +kernel
theorem dX6_append_20 : decode cX6_append 20 = .ok (.iload 4, 2) := by decide +kernel
theorem dX6_append_22 : decode cX6_append 22 = .ok (.iload 5, 2) := by decide +kernel
theorem dX6_append_24 : decode cX6_append 24 = .ok (.invokestatic 71, 3) := by decide +kernel
theorem dX6_append_27 : decode cX6_append 27 = .ok (.ifCond .ne 7, 3) := by decide +kernel
theorem dX6_append_30 : decode cX6_append 30 = .ok (.iconst 0, 1) := by decide +kernel
theorem dX6_append_31 : decode cX6_append 31 = .ok (.goto 4, 3) := by decide +kernel
theorem dX6_append_34 : decode cX6_append 34 = .ok (.iconst 1, 1) := by decide +kernel
theorem dX6_append_35 : decode cX6_append 35 = .ok (.iadd, 1) := by decide +kernel
theorem dX6_append_36 : decode cX6_append 36 = .ok (.istore 6, 2) := by decide +kernel
theorem dX6_append_38 : decode cX6_append 38 = .ok (.iinc 7 1, 3) := by decide +kernel
theorem dX6_append_41 : decode cX6_append 41 = .ok (.goto (-35), 3) := by decide +kernel
theorem dX6_append_44 : decode cX6_append 44 = .ok (.aload_n 0, 1) := by decide +kernel
theorem dX6_append_45 : decode cX6_append 45 = .ok (.aload_n 0, 1) := by decide +kernel
theorem dX6_append_46 : decode cX6_append 46 = .ok (.getfield 75, 3) := by decide +kernel
theorem dX6_append_49 : decode cX6_append 49 = .ok (.iload 6, 2) := by decide +kernel
theorem dX6_append_51 : decode cX6_append 51 = .ok (.iadd, 1) := by decide +kernel
theorem dX6_append_52 : decode cX6_append 52 = .ok (.sipush 600, 3) := by decide +kernel
theorem dX6_append_55 : decode cX6_append 55 = .ok (.if_icmp .le 7, 3) := by decide +kernel
theorem dX6_append_58 : decode cX6_append 58 = .ok (.iconst 1, 1) := by decide +kernel
theorem dX6_append_59 : decode cX6_append 59 = .ok (.goto 4, 3) := by decide +kernel
theorem dX6_append_62 : decode cX6_append 62 = .ok (.iconst 0, 1) := by decide +kernel
theorem dX6_append_63 : decode cX6_append 63 = .ok (.putfield 49, 3) := by decide +kernel
theorem dX6_append_66 : decode cX6_append 66 = .ok (.aload_n 0, 1) := by decide +kernel
theorem dX6_append_67 : decode cX6_append 67 = .ok (.getfield 49, 3) := by decide +kernel
theorem dX6_append_70 : decode cX6_append 70 = .ok (.ifCond .le 5, 3) := by decide +kernel
theorem dX6_append_73 : decode cX6_append 73 = .ok (.iconst 0, 1) := by decide +kernel
theorem dX6_append_74 : decode cX6_append 74 = .ok (.ireturn, 1) := by decide +kernel
theorem dX6_append_75 : decode cX6_append 75 = .ok (.iconst 0, 1) := by decide +kernel
theorem dX6_append_76 : decode cX6_append 76 = .ok (.istore 7, 2) := by decide +kernel
theorem dX6_append_78 : decode cX6_append 78 = .ok (.iload 7, 2) := by decide +kernel
theorem dX6_append_80 : decode cX6_append 80 = .ok (.bipush 20, 2) := by decide +kernel
theorem dX6_append_82 : decode cX6_append 82 = .ok (.if_icmp .ge 52, 3) := by decide +kernel
theorem dX6_append_85 : decode cX6_append 85 = .ok (.iload 7, 2) := by decide +kernel
theorem dX6_append_87 : decode cX6_append 87 = .ok (.iload_n 1, 1) := by decide +kernel
theorem dX6_append_88 : decode cX6_append 88 = .ok (.iload_n 2, 1) := by decide +kernel
theorem dX6_append_89 : decode cX6_append 89 = .ok (.iload_n 3, 1) := by decide +kernel
theorem dX6_append_90 : decode cX6_append 90 = .ok (.iload 4, 2) := by decide +kernel
theorem dX6_append_92 : decode cX6_append 92 = .ok (.iload 5, 2) := by decide +kernel
theorem dX6_append_94 : decode cX6_append 94 = .ok (.invokestatic 71, 3) := by decide +kernel
theorem dX6_append_97 : decode cX6_append 97 = .ok (.istore 8, 2) := by decide +kernel
theorem dX6_append_99 : decode cX6_append 99 = .ok (.iload 8, 2) := by decide +kernel
theorem dX6_append_101 : decode cX6_append 101 = .ok (.ifCond .ne 6, 3) := by decide +kernel
theorem dX6_append_104 : decode cX6_append 104 = .ok (.goto 24, 3) := by decide +kernel
theorem dX6_append_107 : decode cX6_append 107 = .ok (.aload_n 0, 1) := by decide +kernel
theorem dX6_append_108 : decode cX6_append 108 = .ok (.getfield 29, 3) := by decide +kernel
theorem dX6_append_111 : decode cX6_append 111 = .ok (.aload_n 0, 1) := by decide +kernel
theorem dX6_append_112 : decode cX6_append 112 = .ok (.getfield 75, 3) := by decide +kernel
theorem dX6_append_115 : decode cX6_append 115 = .ok (.iload 8, 2) := by decide +kernel
theorem dX6_append_117 : decode cX6_append 117 = .ok (.iastore, 1) := by decide +kernel
theorem dX6_append_118 : decode cX6_append 118 = .ok (.aload_n 0, 1) := by decide +kernel
theorem dX6_append_119 : decode cX6_append 119 = .ok (.dup, 1) := by decide +kernel
theorem dX6_append_120 : decode cX6_append 120 = .ok (.getfield 75, 3) := by decide +kernel
theorem dX6_append_123 : decode cX6_append 123 = .ok (.iconst 1, 1) := by decide +kernel
theorem dX6_append_124 : decode cX6_append 124 = .ok (.iadd, 1) := by decide +kernel
theorem dX6_append_125 : decode cX6_append 125 = .ok (.putfield 75, 3) := by decide +kernel
theorem dX6_append_128 : decode cX6_append 128 = .ok (.iinc 7 1, 3) := by decide +kernel
theorem dX6_append_131 : decode cX6_append 131 = .ok (.goto (-53), 3) := by decide +kernel
theorem dX6_append_134 : decode cX6_append 134 = .ok (.aload_n 0, 1) := by decide +kernel
theorem dX6_append_135 : decode cX6_append 135 = .ok (.getfield 75, 3) := by decide +kernel
theorem dX6_append_138 : decode cX6_append 138 = .ok (.ireturn, 1) := by decide +kernel
theorem dX6_see_0 : decode cX6_see 0 = .ok (.iload_n 1, 1) := by decide +kernel
theorem dX6_see_1 : decode cX6_see 1 = .ok (.aload_n 0, 1) := by decide +kernel
theorem dX6_see_2 : decode cX6_see 2 = .ok (.getfield 75, 3) := by decide +kernel
theorem dX6_see_5 : decode cX6_see 5 = .ok (.if_icmp .ge 12, 3) := by decide +kernel
theorem dX6_see_8 : decode cX6_see 8 = .ok (.aload_n 0, 1) := by decide +kernel
theorem dX6_see_9 : decode cX6_see 9 = .ok (.getfield 29, 3) := by decide +kernel
theorem dX6_see_12 : decode cX6_see 12 = .ok (.iload_n 1, 1) := by decide +kernel
theorem dX6_see_13 : decode cX6_see 13 = .ok (.iaload, 1) := by decide +kernel
theorem dX6_see_14 : decode cX6_see 14 = .ok (.goto 4, 3) := by decide +kernel
theorem dX6_see_17 : decode cX6_see 17 = .ok (.iconst (-1), 1) := by decide +kernel
theorem dX6_see_18 : decode cX6_see 18 = .ok (.ireturn, 1) := by decide +kernel
theorem dX6_isLetter_0 : decode cX6_isLetter 0 = .ok (.aload_n 0, 1) := by decide +kernel
theorem dX6_isLetter_1 : decode cX6_isLetter 1 = .ok (.iload_n 1, 1) := by decide +kernel
theorem dX6_isLetter_2 : decode cX6_isLetter 2 = .ok (.invokevirtual 78, 3) := by decide +kernel
theorem dX6_isLetter_5 : decode cX6_isLetter 5 = .ok (.bipush 97, 2) := by decide +kernel
theorem dX6_isLetter_7 : decode cX6_isLetter 7 = .ok (.bipush 122, 2) := by decide +kernel
theorem dX6_isLetter_9 : decode cX6_isLetter 9 = .ok (.invokestatic 59, 3) := by decide +kernel
theorem dX6_isLetter_12 : decode cX6_isLetter 12 = .ok (.ireturn, 1) := by decide +kernel
theorem dX6_isDigit_0 : decode cX6_isDigit 0 = .ok (.aload_n 0, 1) := by decide +kernel
theorem dX6_isDigit_1 : decode cX6_isDigit 1 = .ok (.iload_n 1, 1) := by decide +kernel
theorem dX6_isDigit_2 : decode cX6_isDigit 2 = .ok (.invokevirtual 78, 3) := by decide +kernel
theorem dX6_isDigit_5 : decode cX6_isDigit 5 = .ok (.bipush 48, 2) := by decide +kernel
theorem dX6_isDigit_7 : decode cX6_isDigit 7 = .ok (.bipush 57, 2) := by decide +kernel
theorem dX6_isDigit_9 : decode cX6_isDigit 9 = .ok (.invokestatic 59, 3) := by decide +kernel
theorem dX6_isDigit_12 : decode cX6_isDigit 12 = .ok (.ireturn, 1) := by decide +kernel
theorem dX6_next_0 : decode cX6_next 0 = .ok (.aload_n 0, 1) := by decide +kernel
theorem dX6_next_1 : decode cX6_next 1 = .ok (.aload_n 0, 1) := by decide +kernel
theorem dX6_next_2 : decode cX6_next 2 = .ok (.getfield 82, 3) := by decide +kernel
theorem dX6_next_5 : decode cX6_next 5 = .ok (.putfield 85, 3) := by decide +kernel
theorem dX6_next_8 : decode cX6_next 8 = .ok (.aload_n 0, 1) := by decide +kernel
theorem dX6_next_9 : decode cX6_next 9 = .ok (.aload_n 0, 1) := by decide +kernel
theorem dX6_next_10 : decode cX6_next 10 = .ok (.getfield 85, 3) := by decide +kernel
theorem dX6_next_13 : decode cX6_next 13 = .ok (.invokevirtual 78, 3) := by decide +kernel
theorem dX6_next_16 : decode cX6_next 16 = .ok (.bipush 32, 2) := by decide +kernel
theorem dX6_next_18 : decode cX6_next 18 = .ok (.if_icmp .ne 16, 3) := by decide +kernel
theorem dX6_next_21 : decode cX6_next 21 = .ok (.aload_n 0, 1) := by decide +kernel
theorem dX6_next_22 : decode cX6_next 22 = .ok (.dup, 1) := by decide +kernel
theorem dX6_next_23 : decode cX6_next 23 = .ok (.getfield 85, 3) := by decide +kernel
theorem dX6_next_26 : decode cX6_next 26 = .ok (.iconst 1, 1) := by decide +kernel
theorem dX6_next_27 : decode cX6_next 27 = .ok (.iadd, 1) := by decide +kernel
theorem dX6_next_28 : decode cX6_next 28 = .ok (.putfield 85, 3) := by decide +kernel
theorem dX6_next_31 : decode cX6_next 31 = .ok (.goto (-23), 3) := by decide +kernel
theorem dX6_next_34 : decode cX6_next 34 = .ok (.aload_n 0, 1) := by decide +kernel
theorem dX6_next_35 : decode cX6_next 35 = .ok (.aload_n 0, 1) := by decide +kernel
theorem dX6_next_36 : decode cX6_next 36 = .ok (.getfield 85, 3) := by decide +kernel
theorem dX6_next_39 : decode cX6_next 39 = .ok (.putfield 82, 3) := by decide +kernel
theorem dX6_next_42 : decode cX6_next 42 = .ok (.aload_n 0, 1) := by decide +kernel
theorem dX6_next_43 : decode cX6_next 43 = .ok (.iconst 0, 1) := by decide +kernel
theorem dX6_next_44 : decode cX6_next 44 = .ok (.putfield 88, 3) := by decide +kernel
theorem dX6_next_47 : decode cX6_next 47 = .ok (.aload_n 0, 1) := by decide +kernel
theorem dX6_next_48 : decode cX6_next 48 = .ok (.getfield 85, 3) := by decide +kernel
theorem dX6_next_51 : decode cX6_next 51 = .ok (.aload_n 0, 1) := by decide +kernel
theorem dX6_next_52 : decode cX6_next 52 = .ok (.getfield 75, 3) := by decide +kernel
theorem dX6_next_55 : decode cX6_next 55 = .ok (.if_icmp .lt 11, 3) := by decide +kernel
theorem dX6_next_58 : decode cX6_next 58 = .ok (.aload_n 0, 1) := by decide +kernel
theorem dX6_next_59 : decode cX6_next 59 = .ok (.iconst 3, 1) := by decide +kernel
theorem dX6_next_60 : decode cX6_next 60 = .ok (.putfield 91, 3) := by decide +kernel
theorem dX6_next_63 : decode cX6_next 63 = .ok (.goto 133, 3) := by decide +kernel
theorem dX6_next_66 : decode cX6_next 66 = .ok (.aload_n 0, 1) := by decide +kernel
theorem dX6_next_67 : decode cX6_next 67 = .ok (.aload_n 0, 1) := by decide +kernel
theorem dX6_next_68 : decode cX6_next 68 = .ok (.getfield 85, 3) := by decide +kernel
theorem dX6_next_71 : decode cX6_next 71 = .ok (.invokevirtual 94, 3) := by decide +kernel
theorem dX6_next_74 : decode cX6_next 74 = .ok (.ifCond .eq 35, 3) := by decide +kernel
theorem dX6_next_77 : decode cX6_next 77 = .ok (.aload_n 0, 1) := by decide +kernel
theorem dX6_next_78 : decode cX6_next 78 = .ok (.aload_n 0, 1) := by decide +kernel
theorem dX6_next_79 : decode cX6_next 79 = .ok (.getfield 82, 3) := by decide +kernel
theorem dX6_next_82 : decode cX6_next 82 = .ok (.invokevirtual 94, 3) := by decide +kernel
theorem dX6_next_85 : decode cX6_next 85 = .ok (.ifCond .eq 16, 3) := by decide +kernel
theorem dX6_next_88 : decode cX6_next 88 = .ok (.aload_n 0, 1) := by decide +kernel
theorem dX6_next_89 : decode cX6_next 89 = .ok (.dup, 1) := by decide +kernel
theorem dX6_next_90 : decode cX6_next 90 = .ok (.getfield 82, 3) := by decide +kernel
theorem dX6_next_93 : decode cX6_next 93 = .ok (.iconst 1, 1) := by decide +kernel
theorem dX6_next_94 : decode cX6_next 94 = .ok (.iadd, 1) := by decide +kernel
theorem dX6_next_95 : decode cX6_next 95 = .ok (.putfield 82, 3) := by decide +kernel
theorem dX6_next_98 : decode cX6_next 98 = .ok (.goto (-21), 3) := by decide +kernel
theorem dX6_next_101 : decode cX6_next 101 = .ok (.aload_n 0, 1) := by decide +kernel
theorem dX6_next_102 : decode cX6_next 102 = .ok (.iconst 0, 1) := by decide +kernel
theorem dX6_next_103 : decode cX6_next 103 = .ok (.putfield 91, 3) := by decide +kernel
theorem dX6_next_106 : decode cX6_next 106 = .ok (.goto 90, 3) := by decide +kernel
theorem dX6_next_109 : decode cX6_next 109 = .ok (.aload_n 0, 1) := by decide +kernel
theorem dX6_next_110 : decode cX6_next 110 = .ok (.aload_n 0, 1) := by decide +kernel
theorem dX6_next_111 : decode cX6_next 111 = .ok (.getfield 85, 3) := by decide +kernel
theorem dX6_next_114 : decode cX6_next 114 = .ok (.invokevirtual 98, 3) := by decide +kernel
theorem dX6_next_117 : decode cX6_next 117 = .ok (.ifCond .eq 64, 3) := by decide +kernel
theorem dX6_next_120 : decode cX6_next 120 = .ok (.aload_n 0, 1) := by decide +kernel
theorem dX6_next_121 : decode cX6_next 121 = .ok (.aload_n 0, 1) := by decide +kernel
theorem dX6_next_122 : decode cX6_next 122 = .ok (.getfield 82, 3) := by decide +kernel
theorem dX6_next_125 : decode cX6_next 125 = .ok (.invokevirtual 98, 3) := by decide +kernel
theorem dX6_next_128 : decode cX6_next 128 = .ok (.ifCond .eq 45, 3) := by decide +kernel
theorem dX6_next_131 : decode cX6_next 131 = .ok (.aload_n 0, 1) := by decide +kernel
theorem dX6_next_132 : decode cX6_next 132 = .ok (.sipush 1000, 3) := by decide +kernel
theorem dX6_next_135 : decode cX6_next 135 = .ok (.bipush 10, 2) := by decide +kernel
theorem dX6_next_137 : decode cX6_next 137 = .ok (.aload_n 0, 1) := by decide +kernel
theorem dX6_next_138 : decode cX6_next 138 = .ok (.getfield 88, 3) := by decide +kernel
theorem dX6_next_141 : decode cX6_next 141 = .ok (.imul, 1) := by decide +kernel
theorem dX6_next_142 : decode cX6_next 142 = .ok (.aload_n 0, 1) := by decide +kernel
theorem dX6_next_143 : decode cX6_next 143 = .ok (.aload_n 0, 1) := by decide +kernel
theorem dX6_next_144 : decode cX6_next 144 = .ok (.getfield 82, 3) := by decide +kernel
theorem dX6_next_147 : decode cX6_next 147 = .ok (.invokevirtual 78, 3) := by decide +kernel
theorem dX6_next_150 : decode cX6_next 150 = .ok (.iadd, 1) := by decide +kernel
theorem dX6_next_151 : decode cX6_next 151 = .ok (.bipush 48, 2) := by decide +kernel
theorem dX6_next_153 : decode cX6_next 153 = .ok (.isub, 1) := by decide +kernel
theorem dX6_next_154 : decode cX6_next 154 = .ok (.invokestatic 101, 3) := by decide +kernel
theorem dX6_next_157 : decode cX6_next 157 = .ok (.putfield 88, 3) := by decide +kernel
theorem dX6_next_160 : decode cX6_next 160 = .ok (.aload_n 0, 1) := by decide +kernel
theorem dX6_next_161 : decode cX6_next 161 = .ok (.dup, 1) := by decide +kernel
theorem dX6_next_162 : decode cX6_next 162 = .ok (.getfield 82, 3) := by decide +kernel
theorem dX6_next_165 : decode cX6_next 165 = .ok (.iconst 1, 1) := by decide +kernel
theorem dX6_next_166 : decode cX6_next 166 = .ok (.iadd, 1) := by decide +kernel
theorem dX6_next_167 : decode cX6_next 167 = .ok (.putfield 82, 3) := by decide +kernel
theorem dX6_next_170 : decode cX6_next 170 = .ok (.goto (-50), 3) := by decide +kernel
theorem dX6_next_173 : decode cX6_next 173 = .ok (.aload_n 0, 1) := by decide +kernel
theorem dX6_next_174 : decode cX6_next 174 = .ok (.iconst 1, 1) := by decide +kernel
theorem dX6_next_175 : decode cX6_next 175 = .ok (.putfield 91, 3) := by decide +kernel
theorem dX6_next_178 : decode cX6_next 178 = .ok (.goto 18, 3) := by decide +kernel
theorem dX6_next_181 : decode cX6_next 181 = .ok (.aload_n 0, 1) := by decide +kernel
theorem dX6_next_182 : decode cX6_next 182 = .ok (.dup, 1) := by decide +kernel
theorem dX6_next_183 : decode cX6_next 183 = .ok (.getfield 82, 3) := by decide +kernel
theorem dX6_next_186 : decode cX6_next 186 = .ok (.iconst 1, 1) := by decide +kernel
theorem dX6_next_187 : decode cX6_next 187 = .ok (.iadd, 1) := by decide +kernel
theorem dX6_next_188 : decode cX6_next 188 = .ok (.putfield 82, 3) := by decide +kernel
theorem dX6_next_191 : decode cX6_next 191 = .ok (.aload_n 0, 1) := by decide +kernel
theorem dX6_next_192 : decode cX6_next 192 = .ok (.iconst 2, 1) := by decide +kernel
theorem dX6_next_193 : decode cX6_next 193 = .ok (.putfield 91, 3) := by decide +kernel
theorem dX6_next_196 : decode cX6_next 196 = .ok (.return_, 1) := by decide +kernel
theorem dX6_isWord_0 : decode cX6_isWord 0 = .ok (.aload_n 0, 1) := by decide +kernel
theorem dX6_isWord_1 : decode cX6_isWord 1 = .ok (.getfield 107, 3) := by decide +kernel
theorem dX6_isWord_4 : decode cX6_isWord 4 = .ok (.ifCond .ne 26, 3) := by decide +kernel
theorem dX6_isWord_7 : decode cX6_isWord 7 = .ok (.aload_n 0, 1) := by decide +kernel
theorem dX6_isWord_8 : decode cX6_isWord 8 = .ok (.getfield 91, 3) := by decide +kernel
theorem dX6_isWord_11 : decode cX6_isWord 11 = .ok (.ifCond .ne 19, 3) := by decide +kernel
theorem dX6_isWord_14 : decode cX6_isWord 14 = .ok (.aload_n 0, 1) := by decide +kernel
theorem dX6_isWord_15 : decode cX6_isWord 15 = .ok (.getfield 82, 3) := by decide +kernel
theorem dX6_isWord_18 : decode cX6_isWord 18 = .ok (.aload_n 0, 1) := by decide +kernel
theorem dX6_isWord_19 : decode cX6_isWord 19 = .ok (.getfield 85, 3) := by decide +kernel
theorem dX6_isWord_22 : decode cX6_isWord 22 = .ok (.isub, 1) := by decide +kernel
theorem dX6_isWord_23 : decode cX6_isWord 23 = .ok (.aload_n 1, 1) := by decide +kernel
theorem dX6_isWord_24 : decode cX6_isWord 24 = .ok (.invokevirtual 110, 3) := by decide +kernel
theorem dX6_isWord_27 : decode cX6_isWord 27 = .ok (.if_icmp .eq 5, 3) := by decide +kernel
theorem dX6_isWord_30 : decode cX6_isWord 30 = .ok (.iconst 0, 1) := by decide +kernel
theorem dX6_isWord_31 : decode cX6_isWord 31 = .ok (.ireturn, 1) := by decide +kernel
theorem dX6_isWord_32 : decode cX6_isWord 32 = .ok (.iconst 0, 1) := by decide +kernel
theorem dX6_isWord_33 : decode cX6_isWord 33 = .ok (.istore_n 2, 1) := by decide +kernel
theorem dX6_isWord_34 : decode cX6_isWord 34 = .ok (.iload_n 2, 1) := by decide +kernel
theorem dX6_isWord_35 : decode cX6_isWord 35 = .ok (.aload_n 1, 1) := by decide +kernel
theorem dX6_isWord_36 : decode cX6_isWord 36 = .ok (.invokevirtual 110, 3) := by decide +kernel
theorem dX6_isWord_39 : decode cX6_isWord 39 = .ok (.if_icmp .ge 30, 3) := by decide +kernel
theorem dX6_isWord_42 : decode cX6_isWord 42 = .ok (.aload_n 0, 1) := by decide +kernel
theorem dX6_isWord_43 : decode cX6_isWord 43 = .ok (.getfield 29, 3) := by decide +kernel
theorem dX6_isWord_46 : decode cX6_isWord 46 = .ok (.aload_n 0, 1) := by decide +kernel
theorem dX6_isWord_47 : decode cX6_isWord 47 = .ok (.getfield 85, 3) := by decide +kernel
theorem dX6_isWord_50 : decode cX6_isWord 50 = .ok (.iload_n 2, 1) := by decide +kernel
theorem dX6_isWord_51 : decode cX6_isWord 51 = .ok (.iadd, 1) := by decide +kernel
theorem dX6_isWord_52 : decode cX6_isWord 52 = .ok (.iaload, 1) := by decide +kernel
theorem dX6_isWord_53 : decode cX6_isWord 53 = .ok (.aload_n 1, 1) := by decide +kernel
theorem dX6_isWord_54 : decode cX6_isWord 54 = .ok (.iload_n 2, 1) := by decide +kernel
theorem dX6_isWord_55 : decode cX6_isWord 55 = .ok (.invokevirtual 115, 3) := by decide +kernel
theorem dX6_isWord_58 : decode cX6_isWord 58 = .ok (.if_icmp .eq 5, 3) := by decide +kernel
theorem dX6_isWord_61 : decode cX6_isWord 61 = .ok (.iconst 0, 1) := by decide +kernel
theorem dX6_isWord_62 : decode cX6_isWord 62 = .ok (.ireturn, 1) := by decide +kernel
theorem dX6_isWord_63 : decode cX6_isWord 63 = .ok (.iinc 2 1, 3) := by decide +kernel
theorem dX6_isWord_66 : decode cX6_isWord 66 = .ok (.goto (-32), 3) := by decide +kernel
theorem dX6_isWord_69 : decode cX6_isWord 69 = .ok (.iconst 1, 1) := by decide +kernel
theorem dX6_isWord_70 : decode cX6_isWord 70 = .ok (.ireturn, 1) := by decide +kernel
theorem dX6_fails_0 : decode cX6_fails 0 = .ok (.aload_n 0, 1) := by decide +kernel
theorem dX6_fails_1 : decode cX6_fails 1 = .ok (.getfield 107, 3) := by decide +kernel
theorem dX6_fails_4 : decode cX6_fails 4 = .ok (.ifCond .eq 4, 3) := by decide +kernel
theorem dX6_fails_7 : decode cX6_fails 7 = .ok (.return_, 1) := by decide +kernel
theorem dX6_fails_8 : decode cX6_fails 8 = .ok (.aload_n 0, 1) := by decide +kernel
theorem dX6_fails_9 : decode cX6_fails 9 = .ok (.iload_n 1, 1) := by decide +kernel
theorem dX6_fails_10 : decode cX6_fails 10 = .ok (.putfield 107, 3) := by decide +kernel
theorem dX6_fails_13 : decode cX6_fails 13 = .ok (.aload_n 0, 1) := by decide +kernel
theorem dX6_fails_14 : decode cX6_fails 14 = .ok (.aload_n 0, 1) := by decide +kernel
theorem dX6_fails_15 : decode cX6_fails 15 = .ok (.getfield 85, 3) := by decide +kernel
theorem dX6_fails_18 : decode cX6_fails 18 = .ok (.putfield 119, 3) := by decide +kernel
theorem dX6_fails_21 : decode cX6_fails 21 = .ok (.return_, 1) := by decide +kernel
theorem dX6_must_0 : decode cX6_must 0 = .ok (.iload_n 1, 1) := by decide +kernel
theorem dX6_must_1 : decode cX6_must 1 = .ok (.ifCond .ne 9, 3) := by decide +kernel
theorem dX6_must_4 : decode cX6_must 4 = .ok (.aload_n 0, 1) := by decide +kernel
theorem dX6_must_5 : decode cX6_must 5 = .ok (.bipush (-2), 2) := by decide +kernel
theorem dX6_must_7 : decode cX6_must 7 = .ok (.invokevirtual 122, 3) := by decide +kernel
theorem dX6_must_10 : decode cX6_must 10 = .ok (.aload_n 0, 1) := by decide +kernel
theorem dX6_must_11 : decode cX6_must 11 = .ok (.getfield 107, 3) := by decide +kernel
theorem dX6_must_14 : decode cX6_must 14 = .ok (.ifCond .ne 7, 3) := by decide +kernel
theorem dX6_must_17 : decode cX6_must 17 = .ok (.aload_n 0, 1) := by decide +kernel
theorem dX6_must_18 : decode cX6_must 18 = .ok (.invokevirtual 126, 3) := by decide +kernel
theorem dX6_must_21 : decode cX6_must 21 = .ok (.return_, 1) := by decide +kernel
theorem dX6_mustEnd_0 : decode cX6_mustEnd 0 = .ok (.aload_n 0, 1) := by decide +kernel
theorem dX6_mustEnd_1 : decode cX6_mustEnd 1 = .ok (.aload_n 0, 1) := by decide +kernel
theorem dX6_mustEnd_2 : decode cX6_mustEnd 2 = .ok (.getfield 91, 3) := by decide +kernel
theorem dX6_mustEnd_5 : decode cX6_mustEnd 5 = .ok (.iconst 2, 1) := by decide +kernel
theorem dX6_mustEnd_6 : decode cX6_mustEnd 6 = .ok (.if_icmp .ne 20, 3) := by decide +kernel
theorem dX6_mustEnd_9 : decode cX6_mustEnd 9 = .ok (.aload_n 0, 1) := by decide +kernel
theorem dX6_mustEnd_10 : decode cX6_mustEnd 10 = .ok (.aload_n 0, 1) := by decide +kernel
theorem dX6_mustEnd_11 : decode cX6_mustEnd 11 = .ok (.getfield 85, 3) := by decide +kernel
theorem dX6_mustEnd_14 : decode cX6_mustEnd 14 = .ok (.invokevirtual 78, 3) := by decide +kernel
theorem dX6_mustEnd_17 : decode cX6_mustEnd 17 = .ok (.bipush 59, 2) := by decide +kernel
theorem dX6_mustEnd_19 : decode cX6_mustEnd 19 = .ok (.if_icmp .ne 7, 3) := by decide +kernel
theorem dX6_mustEnd_22 : decode cX6_mustEnd 22 = .ok (.iconst 1, 1) := by decide +kernel
theorem dX6_mustEnd_23 : decode cX6_mustEnd 23 = .ok (.goto 4, 3) := by decide +kernel
theorem dX6_mustEnd_26 : decode cX6_mustEnd 26 = .ok (.iconst 0, 1) := by decide +kernel
theorem dX6_mustEnd_27 : decode cX6_mustEnd 27 = .ok (.invokevirtual 129, 3) := by decide +kernel
theorem dX6_mustEnd_30 : decode cX6_mustEnd 30 = .ok (.return_, 1) := by decide +kernel
theorem dX6_stands_0 : decode cX6_stands 0 = .ok (.aload_n 0, 1) := by decide +kernel
theorem dX6_stands_1 : decode cX6_stands 1 = .ok (.getfield 107, 3) := by decide +kernel
theorem dX6_stands_4 : decode cX6_stands 4 = .ok (.ifCond .ne 17, 3) := by decide +kernel
theorem dX6_stands_7 : decode cX6_stands 7 = .ok (.aload_n 0, 1) := by decide +kernel
theorem dX6_stands_8 : decode cX6_stands 8 = .ok (.getfield 91, 3) := by decide +kernel
theorem dX6_stands_11 : decode cX6_stands 11 = .ok (.iconst 1, 1) := by decide +kernel
theorem dX6_stands_12 : decode cX6_stands 12 = .ok (.if_icmp .eq 9, 3) := by decide +kernel
theorem dX6_stands_15 : decode cX6_stands 15 = .ok (.aload_n 0, 1) := by decide +kernel
theorem dX6_stands_16 : decode cX6_stands 16 = .ok (.bipush (-2), 2) := by decide +kernel
theorem dX6_stands_18 : decode cX6_stands 18 = .ok (.invokevirtual 122, 3) := by decide +kernel
theorem dX6_stands_21 : decode cX6_stands 21 = .ok (.aload_n 0, 1) := by decide +kernel
theorem dX6_stands_22 : decode cX6_stands 22 = .ok (.getfield 107, 3) := by decide +kernel
theorem dX6_stands_25 : decode cX6_stands 25 = .ok (.ifCond .ne 21, 3) := by decide +kernel
theorem dX6_stands_28 : decode cX6_stands 28 = .ok (.aload_n 0, 1) := by decide +kernel
theorem dX6_stands_29 : decode cX6_stands 29 = .ok (.getfield 88, 3) := by decide +kernel
theorem dX6_stands_32 : decode cX6_stands 32 = .ok (.iload_n 1, 1) := by decide +kernel
theorem dX6_stands_33 : decode cX6_stands 33 = .ok (.iload_n 2, 1) := by decide +kernel
theorem dX6_stands_34 : decode cX6_stands 34 = .ok (.invokestatic 59, 3) := by decide +kernel
theorem dX6_stands_37 : decode cX6_stands 37 = .ok (.ifCond .ne 9, 3) := by decide +kernel
theorem dX6_stands_40 : decode cX6_stands 40 = .ok (.aload_n 0, 1) := by decide +kernel
theorem dX6_stands_41 : decode cX6_stands 41 = .ok (.bipush (-3), 2) := by decide +kernel
theorem dX6_stands_43 : decode cX6_stands 43 = .ok (.invokevirtual 122, 3) := by decide +kernel
theorem dX6_stands_46 : decode cX6_stands 46 = .ok (.aload_n 0, 1) := by decide +kernel
theorem dX6_stands_47 : decode cX6_stands 47 = .ok (.getfield 107, 3) := by decide +kernel
theorem dX6_stands_50 : decode cX6_stands 50 = .ok (.ifCond .ne 10, 3) := by decide +kernel
theorem dX6_stands_53 : decode cX6_stands 53 = .ok (.aload_n 0, 1) := by decide +kernel
theorem dX6_stands_54 : decode cX6_stands 54 = .ok (.getfield 88, 3) := by decide +kernel
theorem dX6_stands_57 : decode cX6_stands 57 = .ok (.goto 4, 3) := by decide +kernel
theorem dX6_stands_60 : decode cX6_stands 60 = .ok (.iconst 0, 1) := by decide +kernel
theorem dX6_stands_61 : decode cX6_stands 61 = .ok (.ireturn, 1) := by decide +kernel
theorem dX6_takes_0 : decode cX6_takes 0 = .ok (.aload_n 0, 1) := by decide +kernel
theorem dX6_takes_1 : decode cX6_takes 1 = .ok (.iload_n 1, 1) := by decide +kernel
theorem dX6_takes_2 : decode cX6_takes 2 = .ok (.iload_n 2, 1) := by decide +kernel
theorem dX6_takes_3 : decode cX6_takes 3 = .ok (.invokevirtual 133, 3) := by decide +kernel
theorem dX6_takes_6 : decode cX6_takes 6 = .ok (.istore_n 3, 1) := by decide +kernel
theorem dX6_takes_7 : decode cX6_takes 7 = .ok (.aload_n 0, 1) := by decide +kernel
theorem dX6_takes_8 : decode cX6_takes 8 = .ok (.getfield 107, 3) := by decide +kernel
theorem dX6_takes_11 : decode cX6_takes 11 = .ok (.ifCond .ne 7, 3) := by decide +kernel
theorem dX6_takes_14 : decode cX6_takes 14 = .ok (.aload_n 0, 1) := by decide +kernel
theorem dX6_takes_15 : decode cX6_takes 15 = .ok (.invokevirtual 126, 3) := by decide +kernel
theorem dX6_takes_18 : decode cX6_takes 18 = .ok (.iload_n 3, 1) := by decide +kernel
theorem dX6_takes_19 : decode cX6_takes 19 = .ok (.ireturn, 1) := by decide +kernel
theorem dX6_mustName_0 : decode cX6_mustName 0 = .ok (.aload_n 0, 1) := by decide +kernel
theorem dX6_mustName_1 : decode cX6_mustName 1 = .ok (.getfield 107, 3) := by decide +kernel
theorem dX6_mustName_4 : decode cX6_mustName 4 = .ok (.ifCond .ne 30, 3) := by decide +kernel
theorem dX6_mustName_7 : decode cX6_mustName 7 = .ok (.aload_n 0, 1) := by decide +kernel
theorem dX6_mustName_8 : decode cX6_mustName 8 = .ok (.getfield 91, 3) := by decide +kernel
theorem dX6_mustName_11 : decode cX6_mustName 11 = .ok (.ifCond .ne 17, 3) := by decide +kernel
theorem dX6_mustName_14 : decode cX6_mustName 14 = .ok (.aload_n 0, 1) := by decide +kernel
theorem dX6_mustName_15 : decode cX6_mustName 15 = .ok (.getfield 82, 3) := by decide +kernel
theorem dX6_mustName_18 : decode cX6_mustName 18 = .ok (.aload_n 0, 1) := by decide +kernel
theorem dX6_mustName_19 : decode cX6_mustName 19 = .ok (.getfield 85, 3) := by decide +kernel
theorem dX6_mustName_22 : decode cX6_mustName 22 = .ok (.isub, 1) := by decide +kernel
theorem dX6_mustName_23 : decode cX6_mustName 23 = .ok (.bipush 8, 2) := by decide +kernel
theorem dX6_mustName_25 : decode cX6_mustName 25 = .ok (.if_icmp .le 9, 3) := by decide +kernel
theorem dX6_mustName_28 : decode cX6_mustName 28 = .ok (.aload_n 0, 1) := by decide +kernel
theorem dX6_mustName_29 : decode cX6_mustName 29 = .ok (.bipush (-2), 2) := by decide +kernel
theorem dX6_mustName_31 : decode cX6_mustName 31 = .ok (.invokevirtual 122, 3) := by decide +kernel
theorem dX6_mustName_34 : decode cX6_mustName 34 = .ok (.return_, 1) := by decide +kernel
theorem dX6_named_0 : decode cX6_named 0 = .ok (.iconst 0, 1) := by decide +kernel
theorem dX6_named_1 : decode cX6_named 1 = .ok (.istore 4, 2) := by decide +kernel
theorem dX6_named_3 : decode cX6_named 3 = .ok (.iload 4, 2) := by decide +kernel
theorem dX6_named_5 : decode cX6_named 5 = .ok (.iload_n 2, 1) := by decide +kernel
theorem dX6_named_6 : decode cX6_named 6 = .ok (.if_icmp .ge 102, 3) := by decide +kernel
theorem dX6_named_9 : decode cX6_named 9 = .ok (.aload_n 0, 1) := by decide +kernel
theorem dX6_named_10 : decode cX6_named 10 = .ok (.getfield 107, 3) := by decide +kernel
theorem dX6_named_13 : decode cX6_named 13 = .ok (.ifCond .ne 95, 3) := by decide +kernel
theorem dX6_named_16 : decode cX6_named 16 = .ok (.iconst 1, 1) := by decide +kernel
theorem dX6_named_17 : decode cX6_named 17 = .ok (.istore 5, 2) := by decide +kernel
theorem dX6_named_19 : decode cX6_named 19 = .ok (.iconst 0, 1) := by decide +kernel
theorem dX6_named_20 : decode cX6_named 20 = .ok (.istore 6, 2) := by decide +kernel
theorem dX6_named_22 : decode cX6_named 22 = .ok (.iload 6, 2) := by decide +kernel
theorem dX6_named_24 : decode cX6_named 24 = .ok (.bipush 8, 2) := by decide +kernel
theorem dX6_named_26 : decode cX6_named 26 = .ok (.if_icmp .ge 68, 3) := by decide +kernel
theorem dX6_named_29 : decode cX6_named 29 = .ok (.iload 5, 2) := by decide +kernel
theorem dX6_named_31 : decode cX6_named 31 = .ok (.ifCond .eq 54, 3) := by decide +kernel
theorem dX6_named_34 : decode cX6_named 34 = .ok (.aload_n 0, 1) := by decide +kernel
theorem dX6_named_35 : decode cX6_named 35 = .ok (.getfield 7, 3) := by decide +kernel
theorem dX6_named_38 : decode cX6_named 38 = .ok (.iload_n 1, 1) := by decide +kernel
theorem dX6_named_39 : decode cX6_named 39 = .ok (.iload_n 3, 1) := by decide +kernel
theorem dX6_named_40 : decode cX6_named 40 = .ok (.iload 4, 2) := by decide +kernel
theorem dX6_named_42 : decode cX6_named 42 = .ok (.imul, 1) := by decide +kernel
theorem dX6_named_43 : decode cX6_named 43 = .ok (.iadd, 1) := by decide +kernel
theorem dX6_named_44 : decode cX6_named 44 = .ok (.iload 6, 2) := by decide +kernel
theorem dX6_named_46 : decode cX6_named 46 = .ok (.iadd, 1) := by decide +kernel
theorem dX6_named_47 : decode cX6_named 47 = .ok (.iaload, 1) := by decide +kernel
theorem dX6_named_48 : decode cX6_named 48 = .ok (.aload_n 0, 1) := by decide +kernel
theorem dX6_named_49 : decode cX6_named 49 = .ok (.getfield 85, 3) := by decide +kernel
theorem dX6_named_52 : decode cX6_named 52 = .ok (.iload 6, 2) := by decide +kernel
theorem dX6_named_54 : decode cX6_named 54 = .ok (.iadd, 1) := by decide +kernel
theorem dX6_named_55 : decode cX6_named 55 = .ok (.aload_n 0, 1) := by decide +kernel
theorem dX6_named_56 : decode cX6_named 56 = .ok (.getfield 82, 3) := by decide +kernel
theorem dX6_named_59 : decode cX6_named 59 = .ok (.if_icmp .ge 18, 3) := by decide +kernel
theorem dX6_named_62 : decode cX6_named 62 = .ok (.aload_n 0, 1) := by decide +kernel
theorem dX6_named_63 : decode cX6_named 63 = .ok (.getfield 29, 3) := by decide +kernel
theorem dX6_named_66 : decode cX6_named 66 = .ok (.aload_n 0, 1) := by decide +kernel
theorem dX6_named_67 : decode cX6_named 67 = .ok (.getfield 85, 3) := by decide +kernel
theorem dX6_named_70 : decode cX6_named 70 = .ok (.iload 6, 2) := by decide +kernel
theorem dX6_named_72 : decode cX6_named 72 = .ok (.iadd, 1) := by decide +kernel
theorem dX6_named_73 : decode cX6_named 73 = .ok (.iaload, 1) := by decide +kernel
theorem dX6_named_74 : decode cX6_named 74 = .ok (.goto 4, 3) := by decide +kernel
theorem dX6_named_77 : decode cX6_named 77 = .ok (.iconst 0, 1) := by decide +kernel
theorem dX6_named_78 : decode cX6_named 78 = .ok (.if_icmp .ne 7, 3) := by decide +kernel
theorem dX6_named_81 : decode cX6_named 81 = .ok (.iconst 1, 1) := by decide +kernel
theorem dX6_named_82 : decode cX6_named 82 = .ok (.goto 4, 3) := by decide +kernel
theorem dX6_named_85 : decode cX6_named 85 = .ok (.iconst 0, 1) := by decide +kernel
theorem dX6_named_86 : decode cX6_named 86 = .ok (.istore 5, 2) := by decide +kernel
theorem dX6_named_88 : decode cX6_named 88 = .ok (.iinc 6 1, 3) := by decide +kernel
theorem dX6_named_91 : decode cX6_named 91 = .ok (.goto (-69), 3) := by decide +kernel
theorem dX6_named_94 : decode cX6_named 94 = .ok (.iload 5, 2) := by decide +kernel
theorem dX6_named_96 : decode cX6_named 96 = .ok (.ifCond .eq 6, 3) := by decide +kernel
theorem dX6_named_99 : decode cX6_named 99 = .ok (.iload 4, 2) := by decide +kernel
theorem dX6_named_101 : decode cX6_named 101 = .ok (.ireturn, 1) := by decide +kernel
theorem dX6_named_102 : decode cX6_named 102 = .ok (.iinc 4 1, 3) := by decide +kernel
theorem dX6_named_105 : decode cX6_named 105 = .ok (.goto (-102), 3) := by decide +kernel
theorem dX6_named_108 : decode cX6_named 108 = .ok (.iconst (-1), 1) := by decide +kernel
theorem dX6_named_109 : decode cX6_named 109 = .ok (.ireturn, 1) := by decide +kernel
theorem dX6_putsName_0 : decode cX6_putsName 0 = .ok (.iconst 0, 1) := by decide +kernel
theorem dX6_putsName_1 : decode cX6_putsName 1 = .ok (.istore_n 2, 1) := by decide +kernel
theorem dX6_putsName_2 : decode cX6_putsName 2 = .ok (.iload_n 2, 1) := by decide +kernel
theorem dX6_putsName_3 : decode cX6_putsName 3 = .ok (.bipush 8, 2) := by decide +kernel
theorem dX6_putsName_5 : decode cX6_putsName 5 = .ok (.if_icmp .ge 45, 3) := by decide +kernel
theorem dX6_putsName_8 : decode cX6_putsName 8 = .ok (.aload_n 0, 1) := by decide +kernel
theorem dX6_putsName_9 : decode cX6_putsName 9 = .ok (.getfield 7, 3) := by decide +kernel
theorem dX6_putsName_12 : decode cX6_putsName 12 = .ok (.iload_n 1, 1) := by decide +kernel
theorem dX6_putsName_13 : decode cX6_putsName 13 = .ok (.iload_n 2, 1) := by decide +kernel
theorem dX6_putsName_14 : decode cX6_putsName 14 = .ok (.iadd, 1) := by decide +kernel
theorem dX6_putsName_15 : decode cX6_putsName 15 = .ok (.aload_n 0, 1) := by decide +kernel
theorem dX6_putsName_16 : decode cX6_putsName 16 = .ok (.getfield 85, 3) := by decide +kernel
theorem dX6_putsName_19 : decode cX6_putsName 19 = .ok (.iload_n 2, 1) := by decide +kernel
theorem dX6_putsName_20 : decode cX6_putsName 20 = .ok (.iadd, 1) := by decide +kernel
theorem dX6_putsName_21 : decode cX6_putsName 21 = .ok (.aload_n 0, 1) := by decide +kernel
theorem dX6_putsName_22 : decode cX6_putsName 22 = .ok (.getfield 82, 3) := by decide +kernel
theorem dX6_putsName_25 : decode cX6_putsName 25 = .ok (.if_icmp .ge 17, 3) := by decide +kernel
theorem dX6_putsName_28 : decode cX6_putsName 28 = .ok (.aload_n 0, 1) := by decide +kernel
theorem dX6_putsName_29 : decode cX6_putsName 29 = .ok (.getfield 29, 3) := by decide +kernel
theorem dX6_putsName_32 : decode cX6_putsName 32 = .ok (.aload_n 0, 1) := by decide +kernel
theorem dX6_putsName_33 : decode cX6_putsName 33 = .ok (.getfield 85, 3) := by decide +kernel
theorem dX6_putsName_36 : decode cX6_putsName 36 = .ok (.iload_n 2, 1) := by decide +kernel
theorem dX6_putsName_37 : decode cX6_putsName 37 = .ok (.iadd, 1) := by decide +kernel
theorem dX6_putsName_38 : decode cX6_putsName 38 = .ok (.iaload, 1) := by decide +kernel
theorem dX6_putsName_39 : decode cX6_putsName 39 = .ok (.goto 4, 3) := by decide +kernel
theorem dX6_putsName_42 : decode cX6_putsName 42 = .ok (.iconst 0, 1) := by decide +kernel
theorem dX6_putsName_43 : decode cX6_putsName 43 = .ok (.iastore, 1) := by decide +kernel
theorem dX6_putsName_44 : decode cX6_putsName 44 = .ok (.iinc 2 1, 3) := by decide +kernel
theorem dX6_putsName_47 : decode cX6_putsName 47 = .ok (.goto (-45), 3) := by decide +kernel
theorem dX6_putsName_50 : decode cX6_putsName 50 = .ok (.return_, 1) := by decide +kernel
theorem dX6_familyHere_0 : decode cX6_familyHere 0 = .ok (.aload_n 0, 1) := by decide +kernel
theorem dX6_familyHere_1 : decode cX6_familyHere 1 = .ok (.invokevirtual 136, 3) := by decide +kernel
theorem dX6_familyHere_4 : decode cX6_familyHere 4 = .ok (.aload_n 0, 1) := by decide +kernel
theorem dX6_familyHere_5 : decode cX6_familyHere 5 = .ok (.bipush 9, 2) := by decide +kernel
theorem dX6_familyHere_7 : decode cX6_familyHere 7 = .ok (.aload_n 0, 1) := by decide +kernel
theorem dX6_familyHere_8 : decode cX6_familyHere 8 = .ok (.invokevirtual 67, 3) := by decide +kernel
theorem dX6_familyHere_11 : decode cX6_familyHere 11 = .ok (.bipush 12, 2) := by decide +kernel
theorem dX6_familyHere_13 : decode cX6_familyHere 13 = .ok (.invokevirtual 139, 3) := by decide +kernel
theorem dX6_familyHere_16 : decode cX6_familyHere 16 = .ok (.istore_n 1, 1) := by decide +kernel
theorem dX6_familyHere_17 : decode cX6_familyHere 17 = .ok (.iload_n 1, 1) := by decide +kernel
theorem dX6_familyHere_18 : decode cX6_familyHere 18 = .ok (.iconst (-1), 1) := by decide +kernel
theorem dX6_familyHere_19 : decode cX6_familyHere 19 = .ok (.if_icmp .ne 9, 3) := by decide +kernel
theorem dX6_familyHere_22 : decode cX6_familyHere 22 = .ok (.aload_n 0, 1) := by decide +kernel
theorem dX6_familyHere_23 : decode cX6_familyHere 23 = .ok (.bipush (-4), 2) := by decide +kernel
theorem dX6_familyHere_25 : decode cX6_familyHere 25 = .ok (.invokevirtual 122, 3) := by decide +kernel
theorem dX6_familyHere_28 : decode cX6_familyHere 28 = .ok (.iload_n 1, 1) := by decide +kernel
theorem dX6_familyHere_29 : decode cX6_familyHere 29 = .ok (.ireturn, 1) := by decide +kernel
theorem dX6_readsFamily_0 : decode cX6_readsFamily 0 = .ok (.aload_n 0, 1) := by decide +kernel
theorem dX6_readsFamily_1 : decode cX6_readsFamily 1 = .ok (.invokevirtual 67, 3) := by decide +kernel
theorem dX6_readsFamily_4 : decode cX6_readsFamily 4 = .ok (.istore_n 1, 1) := by decide +kernel
theorem dX6_readsFamily_5 : decode cX6_readsFamily 5 = .ok (.iload_n 1, 1) := by decide +kernel
theorem dX6_readsFamily_6 : decode cX6_readsFamily 6 = .ok (.bipush 10, 2) := by decide +kernel
theorem dX6_readsFamily_8 : decode cX6_readsFamily 8 = .ok (.if_icmp .ne 9, 3) := by decide +kernel
theorem dX6_readsFamily_11 : decode cX6_readsFamily 11 = .ok (.aload_n 0, 1) := by decide +kernel
theorem dX6_readsFamily_12 : decode cX6_readsFamily 12 = .ok (.bipush (-7), 2) := by decide +kernel
theorem dX6_readsFamily_14 : decode cX6_readsFamily 14 = .ok (.invokevirtual 122, 3) := by decide +kernel
theorem dX6_readsFamily_17 : decode cX6_readsFamily 17 = .ok (.aload_n 0, 1) := by decide +kernel
theorem dX6_readsFamily_18 : decode cX6_readsFamily 18 = .ok (.aload_n 0, 1) := by decide +kernel
theorem dX6_readsFamily_19 : decode cX6_readsFamily 19 = .ok (.ldc 143, 2) := by decide +kernel
theorem dX6_readsFamily_21 : decode cX6_readsFamily 21 = .ok (.invokevirtual 145, 3) := by decide +kernel
theorem dX6_readsFamily_24 : decode cX6_readsFamily 24 = .ok (.invokevirtual 129, 3) := by decide +kernel
theorem dX6_readsFamily_27 : decode cX6_readsFamily 27 = .ok (.aload_n 0, 1) := by decide +kernel
theorem dX6_readsFamily_28 : decode cX6_readsFamily 28 = .ok (.invokevirtual 136, 3) := by decide +kernel
theorem dX6_readsFamily_31 : decode cX6_readsFamily 31 = .ok (.aload_n 0, 1) := by decide +kernel
theorem dX6_readsFamily_32 : decode cX6_readsFamily 32 = .ok (.bipush 9, 2) := by decide +kernel
theorem dX6_readsFamily_34 : decode cX6_readsFamily 34 = .ok (.iload_n 1, 1) := by decide +kernel
theorem dX6_readsFamily_35 : decode cX6_readsFamily 35 = .ok (.bipush 12, 2) := by decide +kernel
theorem dX6_readsFamily_37 : decode cX6_readsFamily 37 = .ok (.invokevirtual 139, 3) := by decide +kernel
theorem dX6_readsFamily_40 : decode cX6_readsFamily 40 = .ok (.iconst (-1), 1) := by decide +kernel
theorem dX6_readsFamily_41 : decode cX6_readsFamily 41 = .ok (.if_icmp .eq 9, 3) := by decide +kernel
theorem dX6_readsFamily_44 : decode cX6_readsFamily 44 = .ok (.aload_n 0, 1) := by decide +kernel
theorem dX6_readsFamily_45 : decode cX6_readsFamily 45 = .ok (.bipush (-5), 2) := by decide +kernel
theorem dX6_readsFamily_47 : decode cX6_readsFamily 47 = .ok (.invokevirtual 122, 3) := by decide +kernel
theorem dX6_readsFamily_50 : decode cX6_readsFamily 50 = .ok (.aload_n 0, 1) := by decide +kernel
theorem dX6_readsFamily_51 : decode cX6_readsFamily 51 = .ok (.getfield 107, 3) := by decide +kernel
theorem dX6_readsFamily_54 : decode cX6_readsFamily 54 = .ok (.ifCond .eq 4, 3) := by decide +kernel
theorem dX6_readsFamily_57 : decode cX6_readsFamily 57 = .ok (.return_, 1) := by decide +kernel
theorem dX6_readsFamily_58 : decode cX6_readsFamily 58 = .ok (.aload_n 0, 1) := by decide +kernel
theorem dX6_readsFamily_59 : decode cX6_readsFamily 59 = .ok (.iconst 5, 1) := by decide +kernel
theorem dX6_readsFamily_60 : decode cX6_readsFamily 60 = .ok (.bipush 12, 2) := by decide +kernel
theorem dX6_readsFamily_62 : decode cX6_readsFamily 62 = .ok (.iload_n 1, 1) := by decide +kernel
theorem dX6_readsFamily_63 : decode cX6_readsFamily 63 = .ok (.imul, 1) := by decide +kernel
theorem dX6_readsFamily_64 : decode cX6_readsFamily 64 = .ok (.iadd, 1) := by decide +kernel
theorem dX6_readsFamily_65 : decode cX6_readsFamily 65 = .ok (.iconst 4, 1) := by decide +kernel
theorem dX6_readsFamily_66 : decode cX6_readsFamily 66 = .ok (.iadd, 1) := by decide +kernel
theorem dX6_readsFamily_67 : decode cX6_readsFamily 67 = .ok (.invokevirtual 149, 3) := by decide +kernel
theorem dX6_readsFamily_70 : decode cX6_readsFamily 70 = .ok (.aload_n 0, 1) := by decide +kernel
theorem dX6_readsFamily_71 : decode cX6_readsFamily 71 = .ok (.invokevirtual 126, 3) := by decide +kernel
theorem dX6_readsFamily_74 : decode cX6_readsFamily 74 = .ok (.aload_n 0, 1) := by decide +kernel
theorem dX6_readsFamily_75 : decode cX6_readsFamily 75 = .ok (.iload_n 1, 1) := by decide +kernel
theorem dX6_readsFamily_76 : decode cX6_readsFamily 76 = .ok (.iconst 0, 1) := by decide +kernel
theorem dX6_readsFamily_77 : decode cX6_readsFamily 77 = .ok (.aload_n 0, 1) := by decide +kernel
theorem dX6_readsFamily_78 : decode cX6_readsFamily 78 = .ok (.iconst 1, 1) := by decide +kernel
theorem dX6_readsFamily_79 : decode cX6_readsFamily 79 = .ok (.bipush 20, 2) := by decide +kernel
theorem dX6_readsFamily_81 : decode cX6_readsFamily 81 = .ok (.invokevirtual 152, 3) := by decide +kernel
theorem dX6_readsFamily_84 : decode cX6_readsFamily 84 = .ok (.invokevirtual 45, 3) := by decide +kernel
theorem dX6_readsFamily_87 : decode cX6_readsFamily 87 = .ok (.aload_n 0, 1) := by decide +kernel
theorem dX6_readsFamily_88 : decode cX6_readsFamily 88 = .ok (.invokevirtual 155, 3) := by decide +kernel
theorem dX6_readsFamily_91 : decode cX6_readsFamily 91 = .ok (.aload_n 0, 1) := by decide +kernel
theorem dX6_readsFamily_92 : decode cX6_readsFamily 92 = .ok (.getfield 7, 3) := by decide +kernel
theorem dX6_readsFamily_95 : decode cX6_readsFamily 95 = .ok (.iconst 1, 1) := by decide +kernel
theorem dX6_readsFamily_96 : decode cX6_readsFamily 96 = .ok (.dup2, 1) := by decide +kernel
theorem dX6_readsFamily_97 : decode cX6_readsFamily 97 = .ok (.iaload, 1) := by decide +kernel
theorem dX6_readsFamily_98 : decode cX6_readsFamily 98 = .ok (.iconst 1, 1) := by decide +kernel
theorem dX6_readsFamily_99 : decode cX6_readsFamily 99 = .ok (.iadd, 1) := by decide +kernel
theorem dX6_readsFamily_100 : decode cX6_readsFamily 100 = .ok (.iastore, 1) := by decide +kernel
theorem dX6_readsFamily_101 : decode cX6_readsFamily 101 = .ok (.return_, 1) := by decide +kernel
theorem dX6_readsNear_0 : decode cX6_readsNear 0 = .ok (.aload_n 0, 1) := by decide +kernel
theorem dX6_readsNear_1 : decode cX6_readsNear 1 = .ok (.iconst 1, 1) := by decide +kernel
theorem dX6_readsNear_2 : decode cX6_readsNear 2 = .ok (.invokevirtual 129, 3) := by decide +kernel
theorem dX6_readsNear_5 : decode cX6_readsNear 5 = .ok (.aload_n 0, 1) := by decide +kernel
theorem dX6_readsNear_6 : decode cX6_readsNear 6 = .ok (.invokevirtual 158, 3) := by decide +kernel
theorem dX6_readsNear_9 : decode cX6_readsNear 9 = .ok (.istore_n 1, 1) := by decide +kernel
theorem dX6_readsNear_10 : decode cX6_readsNear 10 = .ok (.aload_n 0, 1) := by decide +kernel
theorem dX6_readsNear_11 : decode cX6_readsNear 11 = .ok (.iconst 1, 1) := by decide +kernel
theorem dX6_readsNear_12 : decode cX6_readsNear 12 = .ok (.invokevirtual 129, 3) := by decide +kernel
theorem dX6_readsNear_15 : decode cX6_readsNear 15 = .ok (.aload_n 0, 1) := by decide +kernel
theorem dX6_readsNear_16 : decode cX6_readsNear 16 = .ok (.invokevirtual 158, 3) := by decide +kernel
theorem dX6_readsNear_19 : decode cX6_readsNear 19 = .ok (.istore_n 2, 1) := by decide +kernel
theorem dX6_readsNear_20 : decode cX6_readsNear 20 = .ok (.aload_n 0, 1) := by decide +kernel
theorem dX6_readsNear_21 : decode cX6_readsNear 21 = .ok (.getfield 107, 3) := by decide +kernel
theorem dX6_readsNear_24 : decode cX6_readsNear 24 = .ok (.ifCond .ne 23, 3) := by decide +kernel
theorem dX6_readsNear_27 : decode cX6_readsNear 27 = .ok (.iload_n 1, 1) := by decide +kernel
theorem dX6_readsNear_28 : decode cX6_readsNear 28 = .ok (.iload_n 2, 1) := by decide +kernel
theorem dX6_readsNear_29 : decode cX6_readsNear 29 = .ok (.if_icmp .eq 12, 3) := by decide +kernel
theorem dX6_readsNear_32 : decode cX6_readsNear 32 = .ok (.aload_n 0, 1) := by decide +kernel
theorem dX6_readsNear_33 : decode cX6_readsNear 33 = .ok (.iload_n 1, 1) := by decide +kernel
theorem dX6_readsNear_34 : decode cX6_readsNear 34 = .ok (.iload_n 2, 1) := by decide +kernel
theorem dX6_readsNear_35 : decode cX6_readsNear 35 = .ok (.invokevirtual 161, 3) := by decide +kernel
theorem dX6_readsNear_38 : decode cX6_readsNear 38 = .ok (.ifCond .eq 9, 3) := by decide +kernel
theorem dX6_readsNear_41 : decode cX6_readsNear 41 = .ok (.aload_n 0, 1) := by decide +kernel
theorem dX6_readsNear_42 : decode cX6_readsNear 42 = .ok (.bipush (-5), 2) := by decide +kernel
theorem dX6_readsNear_44 : decode cX6_readsNear 44 = .ok (.invokevirtual 122, 3) := by decide +kernel
theorem dX6_readsNear_47 : decode cX6_readsNear 47 = .ok (.aload_n 0, 1) := by decide +kernel
theorem dX6_readsNear_48 : decode cX6_readsNear 48 = .ok (.iconst 1, 1) := by decide +kernel
theorem dX6_readsNear_49 : decode cX6_readsNear 49 = .ok (.invokevirtual 129, 3) := by decide +kernel
theorem dX6_readsNear_52 : decode cX6_readsNear 52 = .ok (.aload_n 0, 1) := by decide +kernel
theorem dX6_readsNear_53 : decode cX6_readsNear 53 = .ok (.getfield 107, 3) := by decide +kernel
theorem dX6_readsNear_56 : decode cX6_readsNear 56 = .ok (.ifCond .ne 9, 3) := by decide +kernel
theorem dX6_readsNear_59 : decode cX6_readsNear 59 = .ok (.aload_n 0, 1) := by decide +kernel
theorem dX6_readsNear_60 : decode cX6_readsNear 60 = .ok (.iload_n 1, 1) := by decide +kernel
theorem dX6_readsNear_61 : decode cX6_readsNear 61 = .ok (.iload_n 2, 1) := by decide +kernel
theorem dX6_readsNear_62 : decode cX6_readsNear 62 = .ok (.invokevirtual 165, 3) := by decide +kernel
theorem dX6_readsNear_65 : decode cX6_readsNear 65 = .ok (.aload_n 0, 1) := by decide +kernel
theorem dX6_readsNear_66 : decode cX6_readsNear 66 = .ok (.invokevirtual 155, 3) := by decide +kernel
theorem dX6_readsNear_69 : decode cX6_readsNear 69 = .ok (.return_, 1) := by decide +kernel
theorem dX6_readsPicture_0 : decode cX6_readsPicture 0 = .ok (.aload_n 0, 1) := by decide +kernel
theorem dX6_readsPicture_1 : decode cX6_readsPicture 1 = .ok (.invokevirtual 169, 3) := by decide +kernel
theorem dX6_readsPicture_4 : decode cX6_readsPicture 4 = .ok (.istore_n 1, 1) := by decide +kernel
theorem dX6_readsPicture_5 : decode cX6_readsPicture 5 = .ok (.iload_n 1, 1) := by decide +kernel
theorem dX6_readsPicture_6 : decode cX6_readsPicture 6 = .ok (.bipush 12, 2) := by decide +kernel
theorem dX6_readsPicture_8 : decode cX6_readsPicture 8 = .ok (.if_icmp .ne 9, 3) := by decide +kernel
theorem dX6_readsPicture_11 : decode cX6_readsPicture 11 = .ok (.aload_n 0, 1) := by decide +kernel
theorem dX6_readsPicture_12 : decode cX6_readsPicture 12 = .ok (.bipush (-7), 2) := by decide +kernel
theorem dX6_readsPicture_14 : decode cX6_readsPicture 14 = .ok (.invokevirtual 122, 3) := by decide +kernel
theorem dX6_readsPicture_17 : decode cX6_readsPicture 17 = .ok (.aload_n 0, 1) := by decide +kernel
theorem dX6_readsPicture_18 : decode cX6_readsPicture 18 = .ok (.iconst 1, 1) := by decide +kernel
theorem dX6_readsPicture_19 : decode cX6_readsPicture 19 = .ok (.invokevirtual 129, 3) := by decide +kernel
theorem dX6_readsPicture_22 : decode cX6_readsPicture 22 = .ok (.aload_n 0, 1) := by decide +kernel
theorem dX6_readsPicture_23 : decode cX6_readsPicture 23 = .ok (.invokevirtual 136, 3) := by decide +kernel
theorem dX6_readsPicture_26 : decode cX6_readsPicture 26 = .ok (.aload_n 0, 1) := by decide +kernel
theorem dX6_readsPicture_27 : decode cX6_readsPicture 27 = .ok (.bipush 126, 2) := by decide +kernel
theorem dX6_readsPicture_29 : decode cX6_readsPicture 29 = .ok (.iload_n 1, 1) := by decide +kernel
theorem dX6_readsPicture_30 : decode cX6_readsPicture 30 = .ok (.bipush 19, 2) := by decide +kernel
theorem dX6_readsPicture_32 : decode cX6_readsPicture 32 = .ok (.invokevirtual 139, 3) := by decide +kernel
theorem dX6_readsPicture_35 : decode cX6_readsPicture 35 = .ok (.iconst (-1), 1) := by decide +kernel
theorem dX6_readsPicture_36 : decode cX6_readsPicture 36 = .ok (.if_icmp .eq 9, 3) := by decide +kernel
theorem dX6_readsPicture_39 : decode cX6_readsPicture 39 = .ok (.aload_n 0, 1) := by decide +kernel
theorem dX6_readsPicture_40 : decode cX6_readsPicture 40 = .ok (.bipush (-5), 2) := by decide +kernel
theorem dX6_readsPicture_42 : decode cX6_readsPicture 42 = .ok (.invokevirtual 122, 3) := by decide +kernel
theorem dX6_readsPicture_45 : decode cX6_readsPicture 45 = .ok (.aload_n 0, 1) := by decide +kernel
theorem dX6_readsPicture_46 : decode cX6_readsPicture 46 = .ok (.getfield 107, 3) := by decide +kernel
theorem dX6_readsPicture_49 : decode cX6_readsPicture 49 = .ok (.ifCond .eq 4, 3) := by decide +kernel
theorem dX6_readsPicture_52 : decode cX6_readsPicture 52 = .ok (.return_, 1) := by decide +kernel
theorem dX6_readsPicture_53 : decode cX6_readsPicture 53 = .ok (.iconst 0, 1) := by decide +kernel
theorem dX6_readsPicture_54 : decode cX6_readsPicture 54 = .ok (.istore_n 2, 1) := by decide +kernel
theorem dX6_readsPicture_55 : decode cX6_readsPicture 55 = .ok (.iload_n 2, 1) := by decide +kernel
theorem dX6_readsPicture_56 : decode cX6_readsPicture 56 = .ok (.bipush 10, 2) := by decide +kernel
theorem dX6_readsPicture_58 : decode cX6_readsPicture 58 = .ok (.if_icmp .ge 16, 3) := by decide +kernel
theorem dX6_readsPicture_61 : decode cX6_readsPicture 61 = .ok (.aload_n 0, 1) := by decide +kernel
theorem dX6_readsPicture_62 : decode cX6_readsPicture 62 = .ok (.iload_n 1, 1) := by decide +kernel
theorem dX6_readsPicture_63 : decode cX6_readsPicture 63 = .ok (.iload_n 2, 1) := by decide +kernel
theorem dX6_readsPicture_64 : decode cX6_readsPicture 64 = .ok (.iconst 0, 1) := by decide +kernel
theorem dX6_readsPicture_65 : decode cX6_readsPicture 65 = .ok (.invokevirtual 172, 3) := by decide +kernel
theorem dX6_readsPicture_68 : decode cX6_readsPicture 68 = .ok (.iinc 2 1, 3) := by decide +kernel
theorem dX6_readsPicture_71 : decode cX6_readsPicture 71 = .ok (.goto (-16), 3) := by decide +kernel
theorem dX6_readsPicture_74 : decode cX6_readsPicture 74 = .ok (.aload_n 0, 1) := by decide +kernel
theorem dX6_readsPicture_75 : decode cX6_readsPicture 75 = .ok (.bipush 125, 2) := by decide +kernel
theorem dX6_readsPicture_77 : decode cX6_readsPicture 77 = .ok (.bipush 19, 2) := by decide +kernel
theorem dX6_readsPicture_79 : decode cX6_readsPicture 79 = .ok (.iload_n 1, 1) := by decide +kernel
theorem dX6_readsPicture_80 : decode cX6_readsPicture 80 = .ok (.imul, 1) := by decide +kernel
theorem dX6_readsPicture_81 : decode cX6_readsPicture 81 = .ok (.iadd, 1) := by decide +kernel
theorem dX6_readsPicture_82 : decode cX6_readsPicture 82 = .ok (.iconst 1, 1) := by decide +kernel
theorem dX6_readsPicture_83 : decode cX6_readsPicture 83 = .ok (.iadd, 1) := by decide +kernel
theorem dX6_readsPicture_84 : decode cX6_readsPicture 84 = .ok (.invokevirtual 149, 3) := by decide +kernel
theorem dX6_readsPicture_87 : decode cX6_readsPicture 87 = .ok (.aload_n 0, 1) := by decide +kernel
theorem dX6_readsPicture_88 : decode cX6_readsPicture 88 = .ok (.invokevirtual 126, 3) := by decide +kernel
theorem dX6_readsPicture_91 : decode cX6_readsPicture 91 = .ok (.aload_n 0, 1) := by decide +kernel
theorem dX6_readsPicture_92 : decode cX6_readsPicture 92 = .ok (.aload_n 0, 1) := by decide +kernel
theorem dX6_readsPicture_93 : decode cX6_readsPicture 93 = .ok (.ldc 175, 2) := by decide +kernel
theorem dX6_readsPicture_95 : decode cX6_readsPicture 95 = .ok (.invokevirtual 145, 3) := by decide +kernel
theorem dX6_readsPicture_98 : decode cX6_readsPicture 98 = .ok (.invokevirtual 129, 3) := by decide +kernel
theorem dX6_readsPicture_101 : decode cX6_readsPicture 101 = .ok (.aload_n 0, 1) := by decide +kernel
theorem dX6_readsPicture_102 : decode cX6_readsPicture 102 = .ok (.getfield 7, 3) := by decide +kernel
theorem dX6_readsPicture_105 : decode cX6_readsPicture 105 = .ok (.bipush 125, 2) := by decide +kernel
theorem dX6_readsPicture_107 : decode cX6_readsPicture 107 = .ok (.bipush 19, 2) := by decide +kernel
theorem dX6_readsPicture_109 : decode cX6_readsPicture 109 = .ok (.iload_n 1, 1) := by decide +kernel
theorem dX6_readsPicture_110 : decode cX6_readsPicture 110 = .ok (.imul, 1) := by decide +kernel
theorem dX6_readsPicture_111 : decode cX6_readsPicture 111 = .ok (.iadd, 1) := by decide +kernel
theorem dX6_readsPicture_112 : decode cX6_readsPicture 112 = .ok (.aload_n 0, 1) := by decide +kernel
theorem dX6_readsPicture_113 : decode cX6_readsPicture 113 = .ok (.iconst 1, 1) := by decide +kernel
theorem dX6_readsPicture_114 : decode cX6_readsPicture 114 = .ok (.bipush 10, 2) := by decide +kernel
theorem dX6_readsPicture_116 : decode cX6_readsPicture 116 = .ok (.invokevirtual 152, 3) := by decide +kernel
theorem dX6_readsPicture_119 : decode cX6_readsPicture 119 = .ok (.iastore, 1) := by decide +kernel
theorem dX6_readsPicture_120 : decode cX6_readsPicture 120 = .ok (.aload_n 0, 1) := by decide +kernel
theorem dX6_readsPicture_121 : decode cX6_readsPicture 121 = .ok (.getfield 7, 3) := by decide +kernel
theorem dX6_readsPicture_124 : decode cX6_readsPicture 124 = .ok (.iconst 2, 1) := by decide +kernel
theorem dX6_readsPicture_125 : decode cX6_readsPicture 125 = .ok (.dup2, 1) := by decide +kernel
theorem dX6_readsPicture_126 : decode cX6_readsPicture 126 = .ok (.iaload, 1) := by decide +kernel
theorem dX6_readsPicture_127 : decode cX6_readsPicture 127 = .ok (.iconst 1, 1) := by decide +kernel
theorem dX6_readsPicture_128 : decode cX6_readsPicture 128 = .ok (.iadd, 1) := by decide +kernel
theorem dX6_readsPicture_129 : decode cX6_readsPicture 129 = .ok (.iastore, 1) := by decide +kernel
theorem dX6_readsPicture_130 : decode cX6_readsPicture 130 = .ok (.aload_n 0, 1) := by decide +kernel
theorem dX6_readsPicture_131 : decode cX6_readsPicture 131 = .ok (.ldc 177, 2) := by decide +kernel
theorem dX6_readsPicture_133 : decode cX6_readsPicture 133 = .ok (.invokevirtual 145, 3) := by decide +kernel
theorem dX6_readsPicture_136 : decode cX6_readsPicture 136 = .ok (.ifCond .eq 11, 3) := by decide +kernel
theorem dX6_readsPicture_139 : decode cX6_readsPicture 139 = .ok (.aload_n 0, 1) := by decide +kernel
theorem dX6_readsPicture_140 : decode cX6_readsPicture 140 = .ok (.iload_n 1, 1) := by decide +kernel
theorem dX6_readsPicture_141 : decode cX6_readsPicture 141 = .ok (.invokevirtual 179, 3) := by decide +kernel
theorem dX6_readsPicture_144 : decode cX6_readsPicture 144 = .ok (.goto (-14), 3) := by decide +kernel
theorem dX6_readsPicture_147 : decode cX6_readsPicture 147 = .ok (.aload_n 0, 1) := by decide +kernel
theorem dX6_readsPicture_148 : decode cX6_readsPicture 148 = .ok (.invokevirtual 155, 3) := by decide +kernel
theorem dX6_readsPicture_151 : decode cX6_readsPicture 151 = .ok (.return_, 1) := by decide +kernel
theorem dX6_readsCopy_0 : decode cX6_readsCopy 0 = .ok (.aload_n 0, 1) := by decide +kernel
theorem dX6_readsCopy_1 : decode cX6_readsCopy 1 = .ok (.iconst 1, 1) := by decide +kernel
theorem dX6_readsCopy_2 : decode cX6_readsCopy 2 = .ok (.invokevirtual 129, 3) := by decide +kernel
theorem dX6_readsCopy_5 : decode cX6_readsCopy 5 = .ok (.aload_n 0, 1) := by decide +kernel
theorem dX6_readsCopy_6 : decode cX6_readsCopy 6 = .ok (.invokevirtual 158, 3) := by decide +kernel
theorem dX6_readsCopy_9 : decode cX6_readsCopy 9 = .ok (.istore_n 2, 1) := by decide +kernel
theorem dX6_readsCopy_10 : decode cX6_readsCopy 10 = .ok (.aload_n 0, 1) := by decide +kernel
theorem dX6_readsCopy_11 : decode cX6_readsCopy 11 = .ok (.getfield 107, 3) := by decide +kernel
theorem dX6_readsCopy_14 : decode cX6_readsCopy 14 = .ok (.ifCond .ne 18, 3) := by decide +kernel
theorem dX6_readsCopy_17 : decode cX6_readsCopy 17 = .ok (.aload_n 0, 1) := by decide +kernel
theorem dX6_readsCopy_18 : decode cX6_readsCopy 18 = .ok (.iload_n 1, 1) := by decide +kernel
theorem dX6_readsCopy_19 : decode cX6_readsCopy 19 = .ok (.iload_n 2, 1) := by decide +kernel
theorem dX6_readsCopy_20 : decode cX6_readsCopy 20 = .ok (.invokevirtual 182, 3) := by decide +kernel
theorem dX6_readsCopy_23 : decode cX6_readsCopy 23 = .ok (.ifCond .eq 9, 3) := by decide +kernel
theorem dX6_readsCopy_26 : decode cX6_readsCopy 26 = .ok (.aload_n 0, 1) := by decide +kernel
theorem dX6_readsCopy_27 : decode cX6_readsCopy 27 = .ok (.bipush (-5), 2) := by decide +kernel
theorem dX6_readsCopy_29 : decode cX6_readsCopy 29 = .ok (.invokevirtual 122, 3) := by decide +kernel
theorem dX6_readsCopy_32 : decode cX6_readsCopy 32 = .ok (.aload_n 0, 1) := by decide +kernel
theorem dX6_readsCopy_33 : decode cX6_readsCopy 33 = .ok (.getfield 107, 3) := by decide +kernel
theorem dX6_readsCopy_36 : decode cX6_readsCopy 36 = .ok (.ifCond .ne 18, 3) := by decide +kernel
theorem dX6_readsCopy_39 : decode cX6_readsCopy 39 = .ok (.aload_n 0, 1) := by decide +kernel
theorem dX6_readsCopy_40 : decode cX6_readsCopy 40 = .ok (.iload_n 2, 1) := by decide +kernel
theorem dX6_readsCopy_41 : decode cX6_readsCopy 41 = .ok (.invokevirtual 185, 3) := by decide +kernel
theorem dX6_readsCopy_44 : decode cX6_readsCopy 44 = .ok (.iconst 1, 1) := by decide +kernel
theorem dX6_readsCopy_45 : decode cX6_readsCopy 45 = .ok (.if_icmp .ge 9, 3) := by decide +kernel
theorem dX6_readsCopy_48 : decode cX6_readsCopy 48 = .ok (.aload_n 0, 1) := by decide +kernel
theorem dX6_readsCopy_49 : decode cX6_readsCopy 49 = .ok (.bipush (-6), 2) := by decide +kernel
theorem dX6_readsCopy_51 : decode cX6_readsCopy 51 = .ok (.invokevirtual 122, 3) := by decide +kernel
theorem dX6_readsCopy_54 : decode cX6_readsCopy 54 = .ok (.aload_n 0, 1) := by decide +kernel
theorem dX6_readsCopy_55 : decode cX6_readsCopy 55 = .ok (.iconst 1, 1) := by decide +kernel
theorem dX6_readsCopy_56 : decode cX6_readsCopy 56 = .ok (.invokevirtual 129, 3) := by decide +kernel
theorem dX6_readsCopy_59 : decode cX6_readsCopy 59 = .ok (.aload_n 0, 1) := by decide +kernel
theorem dX6_readsCopy_60 : decode cX6_readsCopy 60 = .ok (.getfield 107, 3) := by decide +kernel
theorem dX6_readsCopy_63 : decode cX6_readsCopy 63 = .ok (.ifCond .eq 4, 3) := by decide +kernel
theorem dX6_readsCopy_66 : decode cX6_readsCopy 66 = .ok (.return_, 1) := by decide +kernel
theorem dX6_readsCopy_67 : decode cX6_readsCopy 67 = .ok (.aload_n 0, 1) := by decide +kernel
theorem dX6_readsCopy_68 : decode cX6_readsCopy 68 = .ok (.iload_n 1, 1) := by decide +kernel
theorem dX6_readsCopy_69 : decode cX6_readsCopy 69 = .ok (.iload_n 2, 1) := by decide +kernel
theorem dX6_readsCopy_70 : decode cX6_readsCopy 70 = .ok (.ldc 188, 2) := by decide +kernel
theorem dX6_readsCopy_72 : decode cX6_readsCopy 72 = .ok (.invokevirtual 172, 3) := by decide +kernel
theorem dX6_readsCopy_75 : decode cX6_readsCopy 75 = .ok (.aload_n 0, 1) := by decide +kernel
theorem dX6_readsCopy_76 : decode cX6_readsCopy 76 = .ok (.ldc 189, 2) := by decide +kernel
theorem dX6_readsCopy_78 : decode cX6_readsCopy 78 = .ok (.invokevirtual 145, 3) := by decide +kernel
theorem dX6_readsCopy_81 : decode cX6_readsCopy 81 = .ok (.ifCond .ne 4, 3) := by decide +kernel
theorem dX6_readsCopy_84 : decode cX6_readsCopy 84 = .ok (.return_, 1) := by decide +kernel
theorem dX6_readsCopy_85 : decode cX6_readsCopy 85 = .ok (.aload_n 0, 1) := by decide +kernel
theorem dX6_readsCopy_86 : decode cX6_readsCopy 86 = .ok (.invokevirtual 126, 3) := by decide +kernel
theorem dX6_readsCopy_89 : decode cX6_readsCopy 89 = .ok (.aload_n 0, 1) := by decide +kernel
theorem dX6_readsCopy_90 : decode cX6_readsCopy 90 = .ok (.iconst 0, 1) := by decide +kernel
theorem dX6_readsCopy_91 : decode cX6_readsCopy 91 = .ok (.aload_n 0, 1) := by decide +kernel
theorem dX6_readsCopy_92 : decode cX6_readsCopy 92 = .ok (.getfield 7, 3) := by decide +kernel
theorem dX6_readsCopy_95 : decode cX6_readsCopy 95 = .ok (.iconst 0, 1) := by decide +kernel
theorem dX6_readsCopy_96 : decode cX6_readsCopy 96 = .ok (.iaload, 1) := by decide +kernel
theorem dX6_readsCopy_97 : decode cX6_readsCopy 97 = .ok (.iconst 1, 1) := by decide +kernel
theorem dX6_readsCopy_98 : decode cX6_readsCopy 98 = .ok (.isub, 1) := by decide +kernel
theorem dX6_readsCopy_99 : decode cX6_readsCopy 99 = .ok (.invokevirtual 133, 3) := by decide +kernel
theorem dX6_readsCopy_102 : decode cX6_readsCopy 102 = .ok (.istore_n 3, 1) := by decide +kernel
theorem dX6_readsCopy_103 : decode cX6_readsCopy 103 = .ok (.aload_n 0, 1) := by decide +kernel
theorem dX6_readsCopy_104 : decode cX6_readsCopy 104 = .ok (.getfield 107, 3) := by decide +kernel
theorem dX6_readsCopy_107 : decode cX6_readsCopy 107 = .ok (.ifCond .ne 23, 3) := by decide +kernel
theorem dX6_readsCopy_110 : decode cX6_readsCopy 110 = .ok (.aload_n 0, 1) := by decide +kernel
theorem dX6_readsCopy_111 : decode cX6_readsCopy 111 = .ok (.iload_n 1, 1) := by decide +kernel
theorem dX6_readsCopy_112 : decode cX6_readsCopy 112 = .ok (.iload_n 2, 1) := by decide +kernel
theorem dX6_readsCopy_113 : decode cX6_readsCopy 113 = .ok (.invokevirtual 182, 3) := by decide +kernel
theorem dX6_readsCopy_116 : decode cX6_readsCopy 116 = .ok (.iload_n 3, 1) := by decide +kernel
theorem dX6_readsCopy_117 : decode cX6_readsCopy 117 = .ok (.ishr, 1) := by decide +kernel
theorem dX6_readsCopy_118 : decode cX6_readsCopy 118 = .ok (.iconst 1, 1) := by decide +kernel
theorem dX6_readsCopy_119 : decode cX6_readsCopy 119 = .ok (.iand, 1) := by decide +kernel
theorem dX6_readsCopy_120 : decode cX6_readsCopy 120 = .ok (.iconst 1, 1) := by decide +kernel
theorem dX6_readsCopy_121 : decode cX6_readsCopy 121 = .ok (.if_icmp .ne 9, 3) := by decide +kernel
theorem dX6_readsCopy_124 : decode cX6_readsCopy 124 = .ok (.aload_n 0, 1) := by decide +kernel
theorem dX6_readsCopy_125 : decode cX6_readsCopy 125 = .ok (.bipush (-5), 2) := by decide +kernel
theorem dX6_readsCopy_127 : decode cX6_readsCopy 127 = .ok (.invokevirtual 122, 3) := by decide +kernel
theorem dX6_readsCopy_130 : decode cX6_readsCopy 130 = .ok (.aload_n 0, 1) := by decide +kernel
theorem dX6_readsCopy_131 : decode cX6_readsCopy 131 = .ok (.getfield 107, 3) := by decide +kernel
theorem dX6_readsCopy_134 : decode cX6_readsCopy 134 = .ok (.ifCond .eq 4, 3) := by decide +kernel
theorem dX6_readsCopy_137 : decode cX6_readsCopy 137 = .ok (.return_, 1) := by decide +kernel
theorem dX6_readsCopy_138 : decode cX6_readsCopy 138 = .ok (.aload_n 0, 1) := by decide +kernel
theorem dX6_readsCopy_139 : decode cX6_readsCopy 139 = .ok (.iload_n 1, 1) := by decide +kernel
theorem dX6_readsCopy_140 : decode cX6_readsCopy 140 = .ok (.iload_n 2, 1) := by decide +kernel
theorem dX6_readsCopy_141 : decode cX6_readsCopy 141 = .ok (.aload_n 0, 1) := by decide +kernel
theorem dX6_readsCopy_142 : decode cX6_readsCopy 142 = .ok (.iload_n 1, 1) := by decide +kernel
theorem dX6_readsCopy_143 : decode cX6_readsCopy 143 = .ok (.iload_n 2, 1) := by decide +kernel
theorem dX6_readsCopy_144 : decode cX6_readsCopy 144 = .ok (.invokevirtual 182, 3) := by decide +kernel
theorem dX6_readsCopy_147 : decode cX6_readsCopy 147 = .ok (.iconst 1, 1) := by decide +kernel
theorem dX6_readsCopy_148 : decode cX6_readsCopy 148 = .ok (.iload_n 3, 1) := by decide +kernel
theorem dX6_readsCopy_149 : decode cX6_readsCopy 149 = .ok (.ishl, 1) := by decide +kernel
theorem dX6_readsCopy_150 : decode cX6_readsCopy 150 = .ok (.ior, 1) := by decide +kernel
theorem dX6_readsCopy_151 : decode cX6_readsCopy 151 = .ok (.invokevirtual 172, 3) := by decide +kernel
theorem dX6_readsCopy_154 : decode cX6_readsCopy 154 = .ok (.aload_n 0, 1) := by decide +kernel
theorem dX6_readsCopy_155 : decode cX6_readsCopy 155 = .ok (.invokevirtual 126, 3) := by decide +kernel
theorem dX6_readsCopy_158 : decode cX6_readsCopy 158 = .ok (.aload_n 0, 1) := by decide +kernel
theorem dX6_readsCopy_159 : decode cX6_readsCopy 159 = .ok (.getfield 91, 3) := by decide +kernel
theorem dX6_readsCopy_162 : decode cX6_readsCopy 162 = .ok (.iconst 1, 1) := by decide +kernel
theorem dX6_readsCopy_163 : decode cX6_readsCopy 163 = .ok (.if_icmp .eq (-74), 3) := by decide +kernel
theorem dX6_readsCopy_166 : decode cX6_readsCopy 166 = .ok (.return_, 1) := by decide +kernel
theorem dX6_load_0 : decode cX6_load 0 = .ok (.aload_n 0, 1) := by decide +kernel
theorem dX6_load_1 : decode cX6_load 1 = .ok (.iconst 0, 1) := by decide +kernel
theorem dX6_load_2 : decode cX6_load 2 = .ok (.putfield 49, 3) := by decide +kernel
theorem dX6_load_5 : decode cX6_load 5 = .ok (.aload_n 0, 1) := by decide +kernel
theorem dX6_load_6 : decode cX6_load 6 = .ok (.iconst 0, 1) := by decide +kernel
theorem dX6_load_7 : decode cX6_load 7 = .ok (.putfield 82, 3) := by decide +kernel
theorem dX6_load_10 : decode cX6_load 10 = .ok (.aload_n 0, 1) := by decide +kernel
theorem dX6_load_11 : decode cX6_load 11 = .ok (.iconst 0, 1) := by decide +kernel
theorem dX6_load_12 : decode cX6_load 12 = .ok (.putfield 107, 3) := by decide +kernel
theorem dX6_load_15 : decode cX6_load 15 = .ok (.aload_n 0, 1) := by decide +kernel
theorem dX6_load_16 : decode cX6_load 16 = .ok (.getfield 13, 3) := by decide +kernel
theorem dX6_load_19 : decode cX6_load 19 = .ok (.iconst 0, 1) := by decide +kernel
theorem dX6_load_20 : decode cX6_load 20 = .ok (.aload_n 0, 1) := by decide +kernel
theorem dX6_load_21 : decode cX6_load 21 = .ok (.getfield 7, 3) := by decide +kernel
theorem dX6_load_24 : decode cX6_load 24 = .ok (.iconst 0, 1) := by decide +kernel
theorem dX6_load_25 : decode cX6_load 25 = .ok (.invokestatic 55, 3) := by decide +kernel
theorem dX6_load_28 : decode cX6_load 28 = .ok (.aload_n 0, 1) := by decide +kernel
theorem dX6_load_29 : decode cX6_load 29 = .ok (.invokevirtual 42, 3) := by decide +kernel
theorem dX6_load_32 : decode cX6_load 32 = .ok (.aload_n 0, 1) := by decide +kernel
theorem dX6_load_33 : decode cX6_load 33 = .ok (.invokevirtual 126, 3) := by decide +kernel
theorem dX6_load_36 : decode cX6_load 36 = .ok (.aload_n 0, 1) := by decide +kernel
theorem dX6_load_37 : decode cX6_load 37 = .ok (.aload_n 0, 1) := by decide +kernel
theorem dX6_load_38 : decode cX6_load 38 = .ok (.ldc 191, 2) := by decide +kernel
theorem dX6_load_40 : decode cX6_load 40 = .ok (.invokevirtual 145, 3) := by decide +kernel
theorem dX6_load_43 : decode cX6_load 43 = .ok (.invokevirtual 129, 3) := by decide +kernel
theorem dX6_load_46 : decode cX6_load 46 = .ok (.aload_n 0, 1) := by decide +kernel
theorem dX6_load_47 : decode cX6_load 47 = .ok (.getfield 7, 3) := by decide +kernel
theorem dX6_load_50 : decode cX6_load 50 = .ok (.iconst 0, 1) := by decide +kernel
theorem dX6_load_51 : decode cX6_load 51 = .ok (.aload_n 0, 1) := by decide +kernel
theorem dX6_load_52 : decode cX6_load 52 = .ok (.iconst 4, 1) := by decide +kernel
theorem dX6_load_53 : decode cX6_load 53 = .ok (.bipush 16, 2) := by decide +kernel
theorem dX6_load_55 : decode cX6_load 55 = .ok (.invokevirtual 152, 3) := by decide +kernel
theorem dX6_load_58 : decode cX6_load 58 = .ok (.iastore, 1) := by decide +kernel
theorem dX6_load_59 : decode cX6_load 59 = .ok (.aload_n 0, 1) := by decide +kernel
theorem dX6_load_60 : decode cX6_load 60 = .ok (.invokevirtual 155, 3) := by decide +kernel
theorem dX6_load_63 : decode cX6_load 63 = .ok (.aload_n 0, 1) := by decide +kernel
theorem dX6_load_64 : decode cX6_load 64 = .ok (.invokevirtual 193, 3) := by decide +kernel
theorem dX6_load_67 : decode cX6_load 67 = .ok (.aload_n 0, 1) := by decide +kernel
theorem dX6_load_68 : decode cX6_load 68 = .ok (.invokevirtual 193, 3) := by decide +kernel
theorem dX6_load_71 : decode cX6_load 71 = .ok (.aload_n 0, 1) := by decide +kernel
theorem dX6_load_72 : decode cX6_load 72 = .ok (.ldc 143, 2) := by decide +kernel
theorem dX6_load_74 : decode cX6_load 74 = .ok (.invokevirtual 145, 3) := by decide +kernel
theorem dX6_load_77 : decode cX6_load 77 = .ok (.ifCond .eq 10, 3) := by decide +kernel
theorem dX6_load_80 : decode cX6_load 80 = .ok (.aload_n 0, 1) := by decide +kernel
theorem dX6_load_81 : decode cX6_load 81 = .ok (.invokevirtual 193, 3) := by decide +kernel
theorem dX6_load_84 : decode cX6_load 84 = .ok (.goto (-13), 3) := by decide +kernel
theorem dX6_load_87 : decode cX6_load 87 = .ok (.aload_n 0, 1) := by decide +kernel
theorem dX6_load_88 : decode cX6_load 88 = .ok (.ldc 196, 2) := by decide +kernel
theorem dX6_load_90 : decode cX6_load 90 = .ok (.invokevirtual 145, 3) := by decide +kernel
theorem dX6_load_93 : decode cX6_load 93 = .ok (.ifCond .eq 10, 3) := by decide +kernel
theorem dX6_load_96 : decode cX6_load 96 = .ok (.aload_n 0, 1) := by decide +kernel
theorem dX6_load_97 : decode cX6_load 97 = .ok (.invokevirtual 198, 3) := by decide +kernel
theorem dX6_load_100 : decode cX6_load 100 = .ok (.goto (-13), 3) := by decide +kernel
theorem dX6_load_103 : decode cX6_load 103 = .ok (.aload_n 0, 1) := by decide +kernel
theorem dX6_load_104 : decode cX6_load 104 = .ok (.ldc 201, 2) := by decide +kernel
theorem dX6_load_106 : decode cX6_load 106 = .ok (.invokevirtual 145, 3) := by decide +kernel
theorem dX6_load_109 : decode cX6_load 109 = .ok (.ifCond .eq 10, 3) := by decide +kernel
theorem dX6_load_112 : decode cX6_load 112 = .ok (.aload_n 0, 1) := by decide +kernel
theorem dX6_load_113 : decode cX6_load 113 = .ok (.invokevirtual 203, 3) := by decide +kernel
theorem dX6_load_116 : decode cX6_load 116 = .ok (.goto (-13), 3) := by decide +kernel
theorem dX6_load_119 : decode cX6_load 119 = .ok (.aload_n 0, 1) := by decide +kernel
theorem dX6_load_120 : decode cX6_load 120 = .ok (.getfield 107, 3) := by decide +kernel
theorem dX6_load_123 : decode cX6_load 123 = .ok (.ifCond .ne 17, 3) := by decide +kernel
theorem dX6_load_126 : decode cX6_load 126 = .ok (.aload_n 0, 1) := by decide +kernel
theorem dX6_load_127 : decode cX6_load 127 = .ok (.getfield 91, 3) := by decide +kernel
theorem dX6_load_130 : decode cX6_load 130 = .ok (.iconst 3, 1) := by decide +kernel
theorem dX6_load_131 : decode cX6_load 131 = .ok (.if_icmp .eq 9, 3) := by decide +kernel
theorem dX6_load_134 : decode cX6_load 134 = .ok (.aload_n 0, 1) := by decide +kernel
theorem dX6_load_135 : decode cX6_load 135 = .ok (.bipush (-2), 2) := by decide +kernel
theorem dX6_load_137 : decode cX6_load 137 = .ok (.invokevirtual 122, 3) := by decide +kernel
theorem dX6_load_140 : decode cX6_load 140 = .ok (.aload_n 0, 1) := by decide +kernel
theorem dX6_load_141 : decode cX6_load 141 = .ok (.aload_n 0, 1) := by decide +kernel
theorem dX6_load_142 : decode cX6_load 142 = .ok (.getfield 107, 3) := by decide +kernel
theorem dX6_load_145 : decode cX6_load 145 = .ok (.ifCond .ne 7, 3) := by decide +kernel
theorem dX6_load_148 : decode cX6_load 148 = .ok (.iconst (-1), 1) := by decide +kernel
theorem dX6_load_149 : decode cX6_load 149 = .ok (.goto 7, 3) := by decide +kernel
theorem dX6_load_152 : decode cX6_load 152 = .ok (.aload_n 0, 1) := by decide +kernel
theorem dX6_load_153 : decode cX6_load 153 = .ok (.getfield 119, 3) := by decide +kernel
theorem dX6_load_156 : decode cX6_load 156 = .ok (.putfield 32, 3) := by decide +kernel
theorem dX6_load_159 : decode cX6_load 159 = .ok (.aload_n 0, 1) := by decide +kernel
theorem dX6_load_160 : decode cX6_load 160 = .ok (.iconst 0, 1) := by decide +kernel
theorem dX6_load_161 : decode cX6_load 161 = .ok (.putfield 75, 3) := by decide +kernel
theorem dX6_load_164 : decode cX6_load 164 = .ok (.aload_n 0, 1) := by decide +kernel
theorem dX6_load_165 : decode cX6_load 165 = .ok (.getfield 107, 3) := by decide +kernel
theorem dX6_load_168 : decode cX6_load 168 = .ok (.ifCond .eq 16, 3) := by decide +kernel
theorem dX6_load_171 : decode cX6_load 171 = .ok (.aload_n 0, 1) := by decide +kernel
theorem dX6_load_172 : decode cX6_load 172 = .ok (.getfield 7, 3) := by decide +kernel
theorem dX6_load_175 : decode cX6_load 175 = .ok (.iconst 0, 1) := by decide +kernel
theorem dX6_load_176 : decode cX6_load 176 = .ok (.aload_n 0, 1) := by decide +kernel
theorem dX6_load_177 : decode cX6_load 177 = .ok (.getfield 13, 3) := by decide +kernel
theorem dX6_load_180 : decode cX6_load 180 = .ok (.iconst 0, 1) := by decide +kernel
theorem dX6_load_181 : decode cX6_load 181 = .ok (.invokestatic 55, 3) := by decide +kernel
theorem dX6_load_184 : decode cX6_load 184 = .ok (.aload_n 0, 1) := by decide +kernel
theorem dX6_load_185 : decode cX6_load 185 = .ok (.getfield 107, 3) := by decide +kernel
theorem dX6_load_188 : decode cX6_load 188 = .ok (.ifCond .eq 8, 3) := by decide +kernel
theorem dX6_load_191 : decode cX6_load 191 = .ok (.aload_n 0, 1) := by decide +kernel
theorem dX6_load_192 : decode cX6_load 192 = .ok (.getfield 107, 3) := by decide +kernel
theorem dX6_load_195 : decode cX6_load 195 = .ok (.ireturn, 1) := by decide +kernel
theorem dX6_load_196 : decode cX6_load 196 = .ok (.aload_n 0, 1) := by decide +kernel
theorem dX6_load_197 : decode cX6_load 197 = .ok (.aload_n 0, 1) := by decide +kernel
theorem dX6_load_198 : decode cX6_load 198 = .ok (.getfield 13, 3) := by decide +kernel
theorem dX6_load_201 : decode cX6_load 201 = .ok (.invokevirtual 63, 3) := by decide +kernel
theorem dX6_load_204 : decode cX6_load 204 = .ok (.aload_n 0, 1) := by decide +kernel
theorem dX6_load_205 : decode cX6_load 205 = .ok (.invokevirtual 169, 3) := by decide +kernel
theorem dX6_load_208 : decode cX6_load 208 = .ok (.ireturn, 1) := by decide +kernel
theorem dX6_errorPosition_0 : decode cX6_errorPosition 0 = .ok (.aload_n 0, 1) := by decide +kernel
theorem dX6_errorPosition_1 : decode cX6_errorPosition 1 = .ok (.iconst 0, 1) := by decide +kernel
theorem dX6_errorPosition_2 : decode cX6_errorPosition 2 = .ok (.putfield 49, 3) := by decide +kernel
theorem dX6_errorPosition_5 : decode cX6_errorPosition 5 = .ok (.aload_n 0, 1) := by decide +kernel
theorem dX6_errorPosition_6 : decode cX6_errorPosition 6 = .ok (.getfield 32, 3) := by decide +kernel
theorem dX6_errorPosition_9 : decode cX6_errorPosition 9 = .ok (.ireturn, 1) := by decide +kernel
theorem dX6_families_0 : decode cX6_families 0 = .ok (.aload_n 0, 1) := by decide +kernel
theorem dX6_families_1 : decode cX6_families 1 = .ok (.getfield 7, 3) := by decide +kernel
theorem dX6_families_4 : decode cX6_families 4 = .ok (.iconst 1, 1) := by decide +kernel
theorem dX6_families_5 : decode cX6_families 5 = .ok (.iaload, 1) := by decide +kernel
theorem dX6_families_6 : decode cX6_families 6 = .ok (.ireturn, 1) := by decide +kernel
theorem dX6_pictures_0 : decode cX6_pictures 0 = .ok (.aload_n 0, 1) := by decide +kernel
theorem dX6_pictures_1 : decode cX6_pictures 1 = .ok (.getfield 7, 3) := by decide +kernel
theorem dX6_pictures_4 : decode cX6_pictures 4 = .ok (.iconst 2, 1) := by decide +kernel
theorem dX6_pictures_5 : decode cX6_pictures 5 = .ok (.iaload, 1) := by decide +kernel
theorem dX6_pictures_6 : decode cX6_pictures 6 = .ok (.ireturn, 1) := by decide +kernel
theorem dX6_ofFamily_0 : decode cX6_ofFamily 0 = .ok (.aload_n 0, 1) := by decide +kernel
theorem dX6_ofFamily_1 : decode cX6_ofFamily 1 = .ok (.getfield 7, 3) := by decide +kernel
theorem dX6_ofFamily_4 : decode cX6_ofFamily 4 = .ok (.iconst 5, 1) := by decide +kernel
theorem dX6_ofFamily_5 : decode cX6_ofFamily 5 = .ok (.bipush 12, 2) := by decide +kernel
theorem dX6_ofFamily_7 : decode cX6_ofFamily 7 = .ok (.iload_n 1, 1) := by decide +kernel
theorem dX6_ofFamily_8 : decode cX6_ofFamily 8 = .ok (.imul, 1) := by decide +kernel
theorem dX6_ofFamily_9 : decode cX6_ofFamily 9 = .ok (.iadd, 1) := by decide +kernel
theorem dX6_ofFamily_10 : decode cX6_ofFamily 10 = .ok (.iload_n 2, 1) := by decide +kernel
theorem dX6_ofFamily_11 : decode cX6_ofFamily 11 = .ok (.iadd, 1) := by decide +kernel
theorem dX6_ofFamily_12 : decode cX6_ofFamily 12 = .ok (.iaload, 1) := by decide +kernel
theorem dX6_ofFamily_13 : decode cX6_ofFamily 13 = .ok (.ireturn, 1) := by decide +kernel
theorem dX6_setsOf_0 : decode cX6_setsOf 0 = .ok (.aload_n 0, 1) := by decide +kernel
theorem dX6_setsOf_1 : decode cX6_setsOf 1 = .ok (.getfield 7, 3) := by decide +kernel
theorem dX6_setsOf_4 : decode cX6_setsOf 4 = .ok (.iconst 5, 1) := by decide +kernel
theorem dX6_setsOf_5 : decode cX6_setsOf 5 = .ok (.bipush 12, 2) := by decide +kernel
theorem dX6_setsOf_7 : decode cX6_setsOf 7 = .ok (.iload_n 1, 1) := by decide +kernel
theorem dX6_setsOf_8 : decode cX6_setsOf 8 = .ok (.imul, 1) := by decide +kernel
theorem dX6_setsOf_9 : decode cX6_setsOf 9 = .ok (.iadd, 1) := by decide +kernel
theorem dX6_setsOf_10 : decode cX6_setsOf 10 = .ok (.iload_n 2, 1) := by decide +kernel
theorem dX6_setsOf_11 : decode cX6_setsOf 11 = .ok (.iadd, 1) := by decide +kernel
theorem dX6_setsOf_12 : decode cX6_setsOf 12 = .ok (.iload_n 3, 1) := by decide +kernel
theorem dX6_setsOf_13 : decode cX6_setsOf 13 = .ok (.iastore, 1) := by decide +kernel
theorem dX6_setsOf_14 : decode cX6_setsOf 14 = .ok (.return_, 1) := by decide +kernel
theorem dX6_copyOf_0 : decode cX6_copyOf 0 = .ok (.aload_n 0, 1) := by decide +kernel
theorem dX6_copyOf_1 : decode cX6_copyOf 1 = .ok (.getfield 7, 3) := by decide +kernel
theorem dX6_copyOf_4 : decode cX6_copyOf 4 = .ok (.bipush 125, 2) := by decide +kernel
theorem dX6_copyOf_6 : decode cX6_copyOf 6 = .ok (.bipush 19, 2) := by decide +kernel
theorem dX6_copyOf_8 : decode cX6_copyOf 8 = .ok (.iload_n 1, 1) := by decide +kernel
theorem dX6_copyOf_9 : decode cX6_copyOf 9 = .ok (.imul, 1) := by decide +kernel
theorem dX6_copyOf_10 : decode cX6_copyOf 10 = .ok (.iadd, 1) := by decide +kernel
theorem dX6_copyOf_11 : decode cX6_copyOf 11 = .ok (.bipush 9, 2) := by decide +kernel
theorem dX6_copyOf_13 : decode cX6_copyOf 13 = .ok (.iadd, 1) := by decide +kernel
theorem dX6_copyOf_14 : decode cX6_copyOf 14 = .ok (.iload_n 2, 1) := by decide +kernel
theorem dX6_copyOf_15 : decode cX6_copyOf 15 = .ok (.iadd, 1) := by decide +kernel
theorem dX6_copyOf_16 : decode cX6_copyOf 16 = .ok (.iaload, 1) := by decide +kernel
theorem dX6_copyOf_17 : decode cX6_copyOf 17 = .ok (.ireturn, 1) := by decide +kernel
theorem dX6_setsCopy_0 : decode cX6_setsCopy 0 = .ok (.aload_n 0, 1) := by decide +kernel
theorem dX6_setsCopy_1 : decode cX6_setsCopy 1 = .ok (.getfield 7, 3) := by decide +kernel
theorem dX6_setsCopy_4 : decode cX6_setsCopy 4 = .ok (.bipush 125, 2) := by decide +kernel
theorem dX6_setsCopy_6 : decode cX6_setsCopy 6 = .ok (.bipush 19, 2) := by decide +kernel
theorem dX6_setsCopy_8 : decode cX6_setsCopy 8 = .ok (.iload_n 1, 1) := by decide +kernel
theorem dX6_setsCopy_9 : decode cX6_setsCopy 9 = .ok (.imul, 1) := by decide +kernel
theorem dX6_setsCopy_10 : decode cX6_setsCopy 10 = .ok (.iadd, 1) := by decide +kernel
theorem dX6_setsCopy_11 : decode cX6_setsCopy 11 = .ok (.bipush 9, 2) := by decide +kernel
theorem dX6_setsCopy_13 : decode cX6_setsCopy 13 = .ok (.iadd, 1) := by decide +kernel
theorem dX6_setsCopy_14 : decode cX6_setsCopy 14 = .ok (.iload_n 2, 1) := by decide +kernel
theorem dX6_setsCopy_15 : decode cX6_setsCopy 15 = .ok (.iadd, 1) := by decide +kernel
theorem dX6_setsCopy_16 : decode cX6_setsCopy 16 = .ok (.iload_n 3, 1) := by decide +kernel
theorem dX6_setsCopy_17 : decode cX6_setsCopy 17 = .ok (.iastore, 1) := by decide +kernel
theorem dX6_setsCopy_18 : decode cX6_setsCopy 18 = .ok (.return_, 1) := by decide +kernel
theorem dX6_pledgeOf_0 : decode cX6_pledgeOf 0 = .ok (.aload_n 0, 1) := by decide +kernel
theorem dX6_pledgeOf_1 : decode cX6_pledgeOf 1 = .ok (.getfield 7, 3) := by decide +kernel
theorem dX6_pledgeOf_4 : decode cX6_pledgeOf 4 = .ok (.bipush 125, 2) := by decide +kernel
theorem dX6_pledgeOf_6 : decode cX6_pledgeOf 6 = .ok (.bipush 19, 2) := by decide +kernel
theorem dX6_pledgeOf_8 : decode cX6_pledgeOf 8 = .ok (.iload_n 1, 1) := by decide +kernel
theorem dX6_pledgeOf_9 : decode cX6_pledgeOf 9 = .ok (.imul, 1) := by decide +kernel
theorem dX6_pledgeOf_10 : decode cX6_pledgeOf 10 = .ok (.iadd, 1) := by decide +kernel
theorem dX6_pledgeOf_11 : decode cX6_pledgeOf 11 = .ok (.iaload, 1) := by decide +kernel
theorem dX6_pledgeOf_12 : decode cX6_pledgeOf 12 = .ok (.ireturn, 1) := by decide +kernel
theorem dX6_isFamily_0 : decode cX6_isFamily 0 = .ok (.iload_n 1, 1) := by decide +kernel
theorem dX6_isFamily_1 : decode cX6_isFamily 1 = .ok (.iconst 0, 1) := by decide +kernel
theorem dX6_isFamily_2 : decode cX6_isFamily 2 = .ok (.aload_n 0, 1) := by decide +kernel
theorem dX6_isFamily_3 : decode cX6_isFamily 3 = .ok (.invokevirtual 67, 3) := by decide +kernel
theorem dX6_isFamily_6 : decode cX6_isFamily 6 = .ok (.iconst 1, 1) := by decide +kernel
theorem dX6_isFamily_7 : decode cX6_isFamily 7 = .ok (.isub, 1) := by decide +kernel
theorem dX6_isFamily_8 : decode cX6_isFamily 8 = .ok (.invokestatic 59, 3) := by decide +kernel
theorem dX6_isFamily_11 : decode cX6_isFamily 11 = .ok (.ireturn, 1) := by decide +kernel
theorem dX6_isPicture_0 : decode cX6_isPicture 0 = .ok (.iload_n 1, 1) := by decide +kernel
theorem dX6_isPicture_1 : decode cX6_isPicture 1 = .ok (.iconst 0, 1) := by decide +kernel
theorem dX6_isPicture_2 : decode cX6_isPicture 2 = .ok (.aload_n 0, 1) := by decide +kernel
theorem dX6_isPicture_3 : decode cX6_isPicture 3 = .ok (.invokevirtual 169, 3) := by decide +kernel
theorem dX6_isPicture_6 : decode cX6_isPicture 6 = .ok (.iconst 1, 1) := by decide +kernel
theorem dX6_isPicture_7 : decode cX6_isPicture 7 = .ok (.isub, 1) := by decide +kernel
theorem dX6_isPicture_8 : decode cX6_isPicture 8 = .ok (.invokestatic 59, 3) := by decide +kernel
theorem dX6_isPicture_11 : decode cX6_isPicture 11 = .ok (.ireturn, 1) := by decide +kernel
theorem dX6_areNear_0 : decode cX6_areNear 0 = .ok (.aload_n 0, 1) := by decide +kernel
theorem dX6_areNear_1 : decode cX6_areNear 1 = .ok (.iload_n 1, 1) := by decide +kernel
theorem dX6_areNear_2 : decode cX6_areNear 2 = .ok (.iconst 3, 1) := by decide +kernel
theorem dX6_areNear_3 : decode cX6_areNear 3 = .ok (.invokevirtual 206, 3) := by decide +kernel
theorem dX6_areNear_6 : decode cX6_areNear 6 = .ok (.iload_n 2, 1) := by decide +kernel
theorem dX6_areNear_7 : decode cX6_areNear 7 = .ok (.ishr, 1) := by decide +kernel
theorem dX6_areNear_8 : decode cX6_areNear 8 = .ok (.iconst 1, 1) := by decide +kernel
theorem dX6_areNear_9 : decode cX6_areNear 9 = .ok (.iand, 1) := by decide +kernel
theorem dX6_areNear_10 : decode cX6_areNear 10 = .ok (.iconst 1, 1) := by decide +kernel
theorem dX6_areNear_11 : decode cX6_areNear 11 = .ok (.if_icmp .ne 7, 3) := by decide +kernel
theorem dX6_areNear_14 : decode cX6_areNear 14 = .ok (.iconst 1, 1) := by decide +kernel
theorem dX6_areNear_15 : decode cX6_areNear 15 = .ok (.goto 4, 3) := by decide +kernel
theorem dX6_areNear_18 : decode cX6_areNear 18 = .ok (.iconst 0, 1) := by decide +kernel
theorem dX6_areNear_19 : decode cX6_areNear 19 = .ok (.ireturn, 1) := by decide +kernel
theorem dX6_joinsNear_0 : decode cX6_joinsNear 0 = .ok (.aload_n 0, 1) := by decide +kernel
theorem dX6_joinsNear_1 : decode cX6_joinsNear 1 = .ok (.iload_n 1, 1) := by decide +kernel
theorem dX6_joinsNear_2 : decode cX6_joinsNear 2 = .ok (.iconst 3, 1) := by decide +kernel
theorem dX6_joinsNear_3 : decode cX6_joinsNear 3 = .ok (.aload_n 0, 1) := by decide +kernel
theorem dX6_joinsNear_4 : decode cX6_joinsNear 4 = .ok (.iload_n 1, 1) := by decide +kernel
theorem dX6_joinsNear_5 : decode cX6_joinsNear 5 = .ok (.iconst 3, 1) := by decide +kernel
theorem dX6_joinsNear_6 : decode cX6_joinsNear 6 = .ok (.invokevirtual 206, 3) := by decide +kernel
theorem dX6_joinsNear_9 : decode cX6_joinsNear 9 = .ok (.iconst 1, 1) := by decide +kernel
theorem dX6_joinsNear_10 : decode cX6_joinsNear 10 = .ok (.iload_n 2, 1) := by decide +kernel
theorem dX6_joinsNear_11 : decode cX6_joinsNear 11 = .ok (.ishl, 1) := by decide +kernel
theorem dX6_joinsNear_12 : decode cX6_joinsNear 12 = .ok (.ior, 1) := by decide +kernel
theorem dX6_joinsNear_13 : decode cX6_joinsNear 13 = .ok (.invokevirtual 45, 3) := by decide +kernel
theorem dX6_joinsNear_16 : decode cX6_joinsNear 16 = .ok (.aload_n 0, 1) := by decide +kernel
theorem dX6_joinsNear_17 : decode cX6_joinsNear 17 = .ok (.iload_n 2, 1) := by decide +kernel
theorem dX6_joinsNear_18 : decode cX6_joinsNear 18 = .ok (.iconst 3, 1) := by decide +kernel
theorem dX6_joinsNear_19 : decode cX6_joinsNear 19 = .ok (.aload_n 0, 1) := by decide +kernel
theorem dX6_joinsNear_20 : decode cX6_joinsNear 20 = .ok (.iload_n 2, 1) := by decide +kernel
theorem dX6_joinsNear_21 : decode cX6_joinsNear 21 = .ok (.iconst 3, 1) := by decide +kernel
theorem dX6_joinsNear_22 : decode cX6_joinsNear 22 = .ok (.invokevirtual 206, 3) := by decide +kernel
theorem dX6_joinsNear_25 : decode cX6_joinsNear 25 = .ok (.iconst 1, 1) := by decide +kernel
theorem dX6_joinsNear_26 : decode cX6_joinsNear 26 = .ok (.iload_n 1, 1) := by decide +kernel
theorem dX6_joinsNear_27 : decode cX6_joinsNear 27 = .ok (.ishl, 1) := by decide +kernel
theorem dX6_joinsNear_28 : decode cX6_joinsNear 28 = .ok (.ior, 1) := by decide +kernel
theorem dX6_joinsNear_29 : decode cX6_joinsNear 29 = .ok (.invokevirtual 45, 3) := by decide +kernel
theorem dX6_joinsNear_32 : decode cX6_joinsNear 32 = .ok (.return_, 1) := by decide +kernel
theorem dX6_bits_0 : decode cX6_bits 0 = .ok (.iconst 0, 1) := by decide +kernel
theorem dX6_bits_1 : decode cX6_bits 1 = .ok (.istore_n 1, 1) := by decide +kernel
theorem dX6_bits_2 : decode cX6_bits 2 = .ok (.iconst 0, 1) := by decide +kernel
theorem dX6_bits_3 : decode cX6_bits 3 = .ok (.istore_n 2, 1) := by decide +kernel
theorem dX6_bits_4 : decode cX6_bits 4 = .ok (.iload_n 2, 1) := by decide +kernel
theorem dX6_bits_5 : decode cX6_bits 5 = .ok (.bipush 16, 2) := by decide +kernel
theorem dX6_bits_7 : decode cX6_bits 7 = .ok (.if_icmp .ge 17, 3) := by decide +kernel
theorem dX6_bits_10 : decode cX6_bits 10 = .ok (.iload_n 1, 1) := by decide +kernel
theorem dX6_bits_11 : decode cX6_bits 11 = .ok (.iload_n 0, 1) := by decide +kernel
theorem dX6_bits_12 : decode cX6_bits 12 = .ok (.iload_n 2, 1) := by decide +kernel
theorem dX6_bits_13 : decode cX6_bits 13 = .ok (.ishr, 1) := by decide +kernel
theorem dX6_bits_14 : decode cX6_bits 14 = .ok (.iconst 1, 1) := by decide +kernel
theorem dX6_bits_15 : decode cX6_bits 15 = .ok (.iand, 1) := by decide +kernel
theorem dX6_bits_16 : decode cX6_bits 16 = .ok (.iadd, 1) := by decide +kernel
theorem dX6_bits_17 : decode cX6_bits 17 = .ok (.istore_n 1, 1) := by decide +kernel
theorem dX6_bits_18 : decode cX6_bits 18 = .ok (.iinc 2 1, 3) := by decide +kernel
theorem dX6_bits_21 : decode cX6_bits 21 = .ok (.goto (-17), 3) := by decide +kernel
theorem dX6_bits_24 : decode cX6_bits 24 = .ok (.iload_n 1, 1) := by decide +kernel
theorem dX6_bits_25 : decode cX6_bits 25 = .ok (.ireturn, 1) := by decide +kernel
theorem dX6_isHeld_0 : decode cX6_isHeld 0 = .ok (.iload_n 0, 1) := by decide +kernel
theorem dX6_isHeld_1 : decode cX6_isHeld 1 = .ok (.ldc 209, 2) := by decide +kernel
theorem dX6_isHeld_3 : decode cX6_isHeld 3 = .ok (.iand, 1) := by decide +kernel
theorem dX6_isHeld_4 : decode cX6_isHeld 4 = .ok (.ldc 188, 2) := by decide +kernel
theorem dX6_isHeld_6 : decode cX6_isHeld 6 = .ok (.if_icmp .ne 7, 3) := by decide +kernel
theorem dX6_isHeld_9 : decode cX6_isHeld 9 = .ok (.iconst 1, 1) := by decide +kernel
theorem dX6_isHeld_10 : decode cX6_isHeld 10 = .ok (.goto 4, 3) := by decide +kernel
theorem dX6_isHeld_13 : decode cX6_isHeld 13 = .ok (.iconst 0, 1) := by decide +kernel
theorem dX6_isHeld_14 : decode cX6_isHeld 14 = .ok (.ireturn, 1) := by decide +kernel
theorem dX6_isBroken_0 : decode cX6_isBroken 0 = .ok (.iload_n 0, 1) := by decide +kernel
theorem dX6_isBroken_1 : decode cX6_isBroken 1 = .ok (.ldc 210, 2) := by decide +kernel
theorem dX6_isBroken_3 : decode cX6_isBroken 3 = .ok (.iand, 1) := by decide +kernel
theorem dX6_isBroken_4 : decode cX6_isBroken 4 = .ok (.ifCond .eq 7, 3) := by decide +kernel
theorem dX6_isBroken_7 : decode cX6_isBroken 7 = .ok (.iconst 1, 1) := by decide +kernel
theorem dX6_isBroken_8 : decode cX6_isBroken 8 = .ok (.goto 4, 3) := by decide +kernel
theorem dX6_isBroken_11 : decode cX6_isBroken 11 = .ok (.iconst 0, 1) := by decide +kernel
theorem dX6_isBroken_12 : decode cX6_isBroken 12 = .ok (.ireturn, 1) := by decide +kernel
theorem dX6_isSound_0 : decode cX6_isSound 0 = .ok (.iload_n 0, 1) := by decide +kernel
theorem dX6_isSound_1 : decode cX6_isSound 1 = .ok (.ldc 188, 2) := by decide +kernel
theorem dX6_isSound_3 : decode cX6_isSound 3 = .ok (.if_icmp .ne 7, 3) := by decide +kernel
theorem dX6_isSound_6 : decode cX6_isSound 6 = .ok (.iconst 1, 1) := by decide +kernel
theorem dX6_isSound_7 : decode cX6_isSound 7 = .ok (.goto 4, 3) := by decide +kernel
theorem dX6_isSound_10 : decode cX6_isSound 10 = .ok (.iconst 0, 1) := by decide +kernel
theorem dX6_isSound_11 : decode cX6_isSound 11 = .ok (.ireturn, 1) := by decide +kernel
theorem dX6_isSort_0 : decode cX6_isSort 0 = .ok (.iload_n 1, 1) := by decide +kernel
theorem dX6_isSort_1 : decode cX6_isSort 1 = .ok (.ifCond .ne 15, 3) := by decide +kernel
theorem dX6_isSort_4 : decode cX6_isSort 4 = .ok (.iload_n 0, 1) := by decide +kernel
theorem dX6_isSort_5 : decode cX6_isSort 5 = .ok (.ifCond .eq 7, 3) := by decide +kernel
theorem dX6_isSort_8 : decode cX6_isSort 8 = .ok (.iconst 1, 1) := by decide +kernel
theorem dX6_isSort_9 : decode cX6_isSort 9 = .ok (.goto 35, 3) := by decide +kernel
theorem dX6_isSort_12 : decode cX6_isSort 12 = .ok (.iconst 0, 1) := by decide +kernel
theorem dX6_isSort_13 : decode cX6_isSort 13 = .ok (.goto 31, 3) := by decide +kernel
theorem dX6_isSort_16 : decode cX6_isSort 16 = .ok (.iload_n 1, 1) := by decide +kernel
theorem dX6_isSort_17 : decode cX6_isSort 17 = .ok (.iconst 1, 1) := by decide +kernel
theorem dX6_isSort_18 : decode cX6_isSort 18 = .ok (.if_icmp .ne 10, 3) := by decide +kernel
theorem dX6_isSort_21 : decode cX6_isSort 21 = .ok (.iload_n 0, 1) := by decide +kernel
theorem dX6_isSort_22 : decode cX6_isSort 22 = .ok (.invokestatic 211, 3) := by decide +kernel
theorem dX6_isSort_25 : decode cX6_isSort 25 = .ok (.goto 19, 3) := by decide +kernel
theorem dX6_isSort_28 : decode cX6_isSort 28 = .ok (.iload_n 1, 1) := by decide +kernel
theorem dX6_isSort_29 : decode cX6_isSort 29 = .ok (.iconst 2, 1) := by decide +kernel
theorem dX6_isSort_30 : decode cX6_isSort 30 = .ok (.if_icmp .ne 10, 3) := by decide +kernel
theorem dX6_isSort_33 : decode cX6_isSort 33 = .ok (.iload_n 0, 1) := by decide +kernel
theorem dX6_isSort_34 : decode cX6_isSort 34 = .ok (.invokestatic 214, 3) := by decide +kernel
theorem dX6_isSort_37 : decode cX6_isSort 37 = .ok (.goto 7, 3) := by decide +kernel
theorem dX6_isSort_40 : decode cX6_isSort 40 = .ok (.iload_n 0, 1) := by decide +kernel
theorem dX6_isSort_41 : decode cX6_isSort 41 = .ok (.invokestatic 217, 3) := by decide +kernel
theorem dX6_isSort_44 : decode cX6_isSort 44 = .ok (.ireturn, 1) := by decide +kernel
theorem dX6_holders_0 : decode cX6_holders 0 = .ok (.iconst 0, 1) := by decide +kernel
theorem dX6_holders_1 : decode cX6_holders 1 = .ok (.istore_n 3, 1) := by decide +kernel
theorem dX6_holders_2 : decode cX6_holders 2 = .ok (.iconst 0, 1) := by decide +kernel
theorem dX6_holders_3 : decode cX6_holders 3 = .ok (.istore 4, 2) := by decide +kernel
theorem dX6_holders_5 : decode cX6_holders 5 = .ok (.iload 4, 2) := by decide +kernel
theorem dX6_holders_7 : decode cX6_holders 7 = .ok (.aload_n 0, 1) := by decide +kernel
theorem dX6_holders_8 : decode cX6_holders 8 = .ok (.invokevirtual 67, 3) := by decide +kernel
theorem dX6_holders_11 : decode cX6_holders 11 = .ok (.if_icmp .ge 34, 3) := by decide +kernel
theorem dX6_holders_14 : decode cX6_holders 14 = .ok (.iload_n 3, 1) := by decide +kernel
theorem dX6_holders_15 : decode cX6_holders 15 = .ok (.aload_n 0, 1) := by decide +kernel
theorem dX6_holders_16 : decode cX6_holders 16 = .ok (.iload_n 1, 1) := by decide +kernel
theorem dX6_holders_17 : decode cX6_holders 17 = .ok (.iload 4, 2) := by decide +kernel
theorem dX6_holders_19 : decode cX6_holders 19 = .ok (.invokevirtual 182, 3) := by decide +kernel
theorem dX6_holders_22 : decode cX6_holders 22 = .ok (.iload_n 2, 1) := by decide +kernel
theorem dX6_holders_23 : decode cX6_holders 23 = .ok (.invokestatic 220, 3) := by decide +kernel
theorem dX6_holders_26 : decode cX6_holders 26 = .ok (.ifCond .eq 10, 3) := by decide +kernel
theorem dX6_holders_29 : decode cX6_holders 29 = .ok (.iconst 1, 1) := by decide +kernel
theorem dX6_holders_30 : decode cX6_holders 30 = .ok (.iload 4, 2) := by decide +kernel
theorem dX6_holders_32 : decode cX6_holders 32 = .ok (.ishl, 1) := by decide +kernel
theorem dX6_holders_33 : decode cX6_holders 33 = .ok (.goto 4, 3) := by decide +kernel
theorem dX6_holders_36 : decode cX6_holders 36 = .ok (.iconst 0, 1) := by decide +kernel
theorem dX6_holders_37 : decode cX6_holders 37 = .ok (.ior, 1) := by decide +kernel
theorem dX6_holders_38 : decode cX6_holders 38 = .ok (.istore_n 3, 1) := by decide +kernel
theorem dX6_holders_39 : decode cX6_holders 39 = .ok (.iinc 4 1, 3) := by decide +kernel
theorem dX6_holders_42 : decode cX6_holders 42 = .ok (.goto (-37), 3) := by decide +kernel
theorem dX6_holders_45 : decode cX6_holders 45 = .ok (.iload_n 3, 1) := by decide +kernel
theorem dX6_holders_46 : decode cX6_holders 46 = .ok (.ireturn, 1) := by decide +kernel
theorem dX6_copiesOf_0 : decode cX6_copiesOf 0 = .ok (.iconst 0, 1) := by decide +kernel
theorem dX6_copiesOf_1 : decode cX6_copiesOf 1 = .ok (.istore_n 3, 1) := by decide +kernel
theorem dX6_copiesOf_2 : decode cX6_copiesOf 2 = .ok (.iconst 0, 1) := by decide +kernel
theorem dX6_copiesOf_3 : decode cX6_copiesOf 3 = .ok (.istore 4, 2) := by decide +kernel
theorem dX6_copiesOf_5 : decode cX6_copiesOf 5 = .ok (.iload 4, 2) := by decide +kernel
theorem dX6_copiesOf_7 : decode cX6_copiesOf 7 = .ok (.aload_n 0, 1) := by decide +kernel
theorem dX6_copiesOf_8 : decode cX6_copiesOf 8 = .ok (.invokevirtual 169, 3) := by decide +kernel
theorem dX6_copiesOf_11 : decode cX6_copiesOf 11 = .ok (.if_icmp .ge 31, 3) := by decide +kernel
theorem dX6_copiesOf_14 : decode cX6_copiesOf 14 = .ok (.iload_n 3, 1) := by decide +kernel
theorem dX6_copiesOf_15 : decode cX6_copiesOf 15 = .ok (.aload_n 0, 1) := by decide +kernel
theorem dX6_copiesOf_16 : decode cX6_copiesOf 16 = .ok (.iload 4, 2) := by decide +kernel
theorem dX6_copiesOf_18 : decode cX6_copiesOf 18 = .ok (.iload_n 1, 1) := by decide +kernel
theorem dX6_copiesOf_19 : decode cX6_copiesOf 19 = .ok (.invokevirtual 182, 3) := by decide +kernel
theorem dX6_copiesOf_22 : decode cX6_copiesOf 22 = .ok (.iload_n 2, 1) := by decide +kernel
theorem dX6_copiesOf_23 : decode cX6_copiesOf 23 = .ok (.invokestatic 220, 3) := by decide +kernel
theorem dX6_copiesOf_26 : decode cX6_copiesOf 26 = .ok (.ifCond .eq 7, 3) := by decide +kernel
theorem dX6_copiesOf_29 : decode cX6_copiesOf 29 = .ok (.iconst 1, 1) := by decide +kernel
theorem dX6_copiesOf_30 : decode cX6_copiesOf 30 = .ok (.goto 4, 3) := by decide +kernel
theorem dX6_copiesOf_33 : decode cX6_copiesOf 33 = .ok (.iconst 0, 1) := by decide +kernel
theorem dX6_copiesOf_34 : decode cX6_copiesOf 34 = .ok (.iadd, 1) := by decide +kernel
theorem dX6_copiesOf_35 : decode cX6_copiesOf 35 = .ok (.istore_n 3, 1) := by decide +kernel
theorem dX6_copiesOf_36 : decode cX6_copiesOf 36 = .ok (.iinc 4 1, 3) := by decide +kernel
theorem dX6_copiesOf_39 : decode cX6_copiesOf 39 = .ok (.goto (-34), 3) := by decide +kernel
theorem dX6_copiesOf_42 : decode cX6_copiesOf 42 = .ok (.iload_n 3, 1) := by decide +kernel
theorem dX6_copiesOf_43 : decode cX6_copiesOf 43 = .ok (.ireturn, 1) := by decide +kernel
theorem dX6_leftOf_0 : decode cX6_leftOf 0 = .ok (.aload_n 0, 1) := by decide +kernel
theorem dX6_leftOf_1 : decode cX6_leftOf 1 = .ok (.iload_n 1, 1) := by decide +kernel
theorem dX6_leftOf_2 : decode cX6_leftOf 2 = .ok (.iconst 0, 1) := by decide +kernel
theorem dX6_leftOf_3 : decode cX6_leftOf 3 = .ok (.invokevirtual 206, 3) := by decide +kernel
theorem dX6_leftOf_6 : decode cX6_leftOf 6 = .ok (.aload_n 0, 1) := by decide +kernel
theorem dX6_leftOf_7 : decode cX6_leftOf 7 = .ok (.iload_n 1, 1) := by decide +kernel
theorem dX6_leftOf_8 : decode cX6_leftOf 8 = .ok (.iconst 0, 1) := by decide +kernel
theorem dX6_leftOf_9 : decode cX6_leftOf 9 = .ok (.invokevirtual 223, 3) := by decide +kernel
theorem dX6_leftOf_12 : decode cX6_leftOf 12 = .ok (.isub, 1) := by decide +kernel
theorem dX6_leftOf_13 : decode cX6_leftOf 13 = .ok (.ireturn, 1) := by decide +kernel
theorem dX6_isInDanger_0 : decode cX6_isInDanger 0 = .ok (.aload_n 0, 1) := by decide +kernel
theorem dX6_isInDanger_1 : decode cX6_isInDanger 1 = .ok (.iload_n 1, 1) := by decide +kernel
theorem dX6_isInDanger_2 : decode cX6_isInDanger 2 = .ok (.iconst 1, 1) := by decide +kernel
theorem dX6_isInDanger_3 : decode cX6_isInDanger 3 = .ok (.invokevirtual 226, 3) := by decide +kernel
theorem dX6_isInDanger_6 : decode cX6_isInDanger 6 = .ok (.invokestatic 229, 3) := by decide +kernel
theorem dX6_isInDanger_9 : decode cX6_isInDanger 9 = .ok (.aload_n 0, 1) := by decide +kernel
theorem dX6_isInDanger_10 : decode cX6_isInDanger 10 = .ok (.iload_n 1, 1) := by decide +kernel
theorem dX6_isInDanger_11 : decode cX6_isInDanger 11 = .ok (.invokevirtual 232, 3) := by decide +kernel
theorem dX6_isInDanger_14 : decode cX6_isInDanger 14 = .ok (.if_icmp .ge 7, 3) := by decide +kernel
theorem dX6_isInDanger_17 : decode cX6_isInDanger 17 = .ok (.iconst 1, 1) := by decide +kernel
theorem dX6_isInDanger_18 : decode cX6_isInDanger 18 = .ok (.goto 4, 3) := by decide +kernel
theorem dX6_isInDanger_21 : decode cX6_isInDanger 21 = .ok (.iconst 0, 1) := by decide +kernel
theorem dX6_isInDanger_22 : decode cX6_isInDanger 22 = .ok (.ireturn, 1) := by decide +kernel
theorem dX6_isTruly_0 : decode cX6_isTruly 0 = .ok (.aload_n 0, 1) := by decide +kernel
theorem dX6_isTruly_1 : decode cX6_isTruly 1 = .ok (.iload_n 1, 1) := by decide +kernel
theorem dX6_isTruly_2 : decode cX6_isTruly 2 = .ok (.iconst 3, 1) := by decide +kernel
theorem dX6_isTruly_3 : decode cX6_isTruly 3 = .ok (.invokevirtual 226, 3) := by decide +kernel
theorem dX6_isTruly_6 : decode cX6_isTruly 6 = .ok (.invokestatic 229, 3) := by decide +kernel
theorem dX6_isTruly_9 : decode cX6_isTruly 9 = .ok (.aload_n 0, 1) := by decide +kernel
theorem dX6_isTruly_10 : decode cX6_isTruly 10 = .ok (.iload_n 1, 1) := by decide +kernel
theorem dX6_isTruly_11 : decode cX6_isTruly 11 = .ok (.invokevirtual 232, 3) := by decide +kernel
theorem dX6_isTruly_14 : decode cX6_isTruly 14 = .ok (.if_icmp .ge 7, 3) := by decide +kernel
theorem dX6_isTruly_17 : decode cX6_isTruly 17 = .ok (.iconst 1, 1) := by decide +kernel
theorem dX6_isTruly_18 : decode cX6_isTruly 18 = .ok (.goto 4, 3) := by decide +kernel
theorem dX6_isTruly_21 : decode cX6_isTruly 21 = .ok (.iconst 0, 1) := by decide +kernel
theorem dX6_isTruly_22 : decode cX6_isTruly 22 = .ok (.ireturn, 1) := by decide +kernel
theorem dX6_trustOf_0 : decode cX6_trustOf 0 = .ok (.aload_n 0, 1) := by decide +kernel
theorem dX6_trustOf_1 : decode cX6_trustOf 1 = .ok (.iload_n 1, 1) := by decide +kernel
theorem dX6_trustOf_2 : decode cX6_trustOf 2 = .ok (.iconst 1, 1) := by decide +kernel
theorem dX6_trustOf_3 : decode cX6_trustOf 3 = .ok (.invokevirtual 206, 3) := by decide +kernel
theorem dX6_trustOf_6 : decode cX6_trustOf 6 = .ok (.istore_n 2, 1) := by decide +kernel
theorem dX6_trustOf_7 : decode cX6_trustOf 7 = .ok (.bipush 100, 2) := by decide +kernel
theorem dX6_trustOf_9 : decode cX6_trustOf 9 = .ok (.iload_n 2, 1) := by decide +kernel
theorem dX6_trustOf_10 : decode cX6_trustOf 10 = .ok (.iconst 1, 1) := by decide +kernel
theorem dX6_trustOf_11 : decode cX6_trustOf 11 = .ok (.iadd, 1) := by decide +kernel
theorem dX6_trustOf_12 : decode cX6_trustOf 12 = .ok (.imul, 1) := by decide +kernel
theorem dX6_trustOf_13 : decode cX6_trustOf 13 = .ok (.iload_n 2, 1) := by decide +kernel
theorem dX6_trustOf_14 : decode cX6_trustOf 14 = .ok (.aload_n 0, 1) := by decide +kernel
theorem dX6_trustOf_15 : decode cX6_trustOf 15 = .ok (.iload_n 1, 1) := by decide +kernel
theorem dX6_trustOf_16 : decode cX6_trustOf 16 = .ok (.iconst 2, 1) := by decide +kernel
theorem dX6_trustOf_17 : decode cX6_trustOf 17 = .ok (.invokevirtual 206, 3) := by decide +kernel
theorem dX6_trustOf_20 : decode cX6_trustOf 20 = .ok (.iadd, 1) := by decide +kernel
theorem dX6_trustOf_21 : decode cX6_trustOf 21 = .ok (.iconst 2, 1) := by decide +kernel
theorem dX6_trustOf_22 : decode cX6_trustOf 22 = .ok (.iadd, 1) := by decide +kernel
theorem dX6_trustOf_23 : decode cX6_trustOf 23 = .ok (.idiv, 1) := by decide +kernel
theorem dX6_trustOf_24 : decode cX6_trustOf 24 = .ok (.ireturn, 1) := by decide +kernel
theorem dX6_allOf_0 : decode cX6_allOf 0 = .ok (.iconst 0, 1) := by decide +kernel
theorem dX6_allOf_1 : decode cX6_allOf 1 = .ok (.istore_n 2, 1) := by decide +kernel
theorem dX6_allOf_2 : decode cX6_allOf 2 = .ok (.iconst 0, 1) := by decide +kernel
theorem dX6_allOf_3 : decode cX6_allOf 3 = .ok (.istore_n 3, 1) := by decide +kernel
theorem dX6_allOf_4 : decode cX6_allOf 4 = .ok (.iload_n 3, 1) := by decide +kernel
theorem dX6_allOf_5 : decode cX6_allOf 5 = .ok (.aload_n 0, 1) := by decide +kernel
theorem dX6_allOf_6 : decode cX6_allOf 6 = .ok (.invokevirtual 169, 3) := by decide +kernel
theorem dX6_allOf_9 : decode cX6_allOf 9 = .ok (.if_icmp .ge 21, 3) := by decide +kernel
theorem dX6_allOf_12 : decode cX6_allOf 12 = .ok (.iload_n 2, 1) := by decide +kernel
theorem dX6_allOf_13 : decode cX6_allOf 13 = .ok (.aload_n 0, 1) := by decide +kernel
theorem dX6_allOf_14 : decode cX6_allOf 14 = .ok (.iload_n 3, 1) := by decide +kernel
theorem dX6_allOf_15 : decode cX6_allOf 15 = .ok (.iload_n 1, 1) := by decide +kernel
theorem dX6_allOf_16 : decode cX6_allOf 16 = .ok (.invokevirtual 226, 3) := by decide +kernel
theorem dX6_allOf_19 : decode cX6_allOf 19 = .ok (.invokestatic 229, 3) := by decide +kernel
theorem dX6_allOf_22 : decode cX6_allOf 22 = .ok (.iadd, 1) := by decide +kernel
theorem dX6_allOf_23 : decode cX6_allOf 23 = .ok (.istore_n 2, 1) := by decide +kernel
theorem dX6_allOf_24 : decode cX6_allOf 24 = .ok (.iinc 3 1, 3) := by decide +kernel
theorem dX6_allOf_27 : decode cX6_allOf 27 = .ok (.goto (-23), 3) := by decide +kernel
theorem dX6_allOf_30 : decode cX6_allOf 30 = .ok (.iload_n 2, 1) := by decide +kernel
theorem dX6_allOf_31 : decode cX6_allOf 31 = .ok (.ireturn, 1) := by decide +kernel
theorem dX6_dangers_0 : decode cX6_dangers 0 = .ok (.iconst 0, 1) := by decide +kernel
theorem dX6_dangers_1 : decode cX6_dangers 1 = .ok (.istore_n 2, 1) := by decide +kernel
theorem dX6_dangers_2 : decode cX6_dangers 2 = .ok (.iconst 0, 1) := by decide +kernel
theorem dX6_dangers_3 : decode cX6_dangers 3 = .ok (.istore_n 3, 1) := by decide +kernel
theorem dX6_dangers_4 : decode cX6_dangers 4 = .ok (.iload_n 3, 1) := by decide +kernel
theorem dX6_dangers_5 : decode cX6_dangers 5 = .ok (.aload_n 0, 1) := by decide +kernel
theorem dX6_dangers_6 : decode cX6_dangers 6 = .ok (.invokevirtual 169, 3) := by decide +kernel
theorem dX6_dangers_9 : decode cX6_dangers 9 = .ok (.if_icmp .ge 40, 3) := by decide +kernel
theorem dX6_dangers_12 : decode cX6_dangers 12 = .ok (.iload_n 2, 1) := by decide +kernel
theorem dX6_dangers_13 : decode cX6_dangers 13 = .ok (.iload_n 1, 1) := by decide +kernel
theorem dX6_dangers_14 : decode cX6_dangers 14 = .ok (.ifCond .eq 14, 3) := by decide +kernel
theorem dX6_dangers_17 : decode cX6_dangers 17 = .ok (.aload_n 0, 1) := by decide +kernel
theorem dX6_dangers_18 : decode cX6_dangers 18 = .ok (.iload_n 3, 1) := by decide +kernel
theorem dX6_dangers_19 : decode cX6_dangers 19 = .ok (.invokevirtual 235, 3) := by decide +kernel
theorem dX6_dangers_22 : decode cX6_dangers 22 = .ok (.ifCond .eq 18, 3) := by decide +kernel
theorem dX6_dangers_25 : decode cX6_dangers 25 = .ok (.goto 11, 3) := by decide +kernel
theorem dX6_dangers_28 : decode cX6_dangers 28 = .ok (.aload_n 0, 1) := by decide +kernel
theorem dX6_dangers_29 : decode cX6_dangers 29 = .ok (.iload_n 3, 1) := by decide +kernel
theorem dX6_dangers_30 : decode cX6_dangers 30 = .ok (.invokevirtual 238, 3) := by decide +kernel
theorem dX6_dangers_33 : decode cX6_dangers 33 = .ok (.ifCond .eq 7, 3) := by decide +kernel
theorem dX6_dangers_36 : decode cX6_dangers 36 = .ok (.iconst 1, 1) := by decide +kernel
theorem dX6_dangers_37 : decode cX6_dangers 37 = .ok (.goto 4, 3) := by decide +kernel
theorem dX6_dangers_40 : decode cX6_dangers 40 = .ok (.iconst 0, 1) := by decide +kernel
theorem dX6_dangers_41 : decode cX6_dangers 41 = .ok (.iadd, 1) := by decide +kernel
theorem dX6_dangers_42 : decode cX6_dangers 42 = .ok (.istore_n 2, 1) := by decide +kernel
theorem dX6_dangers_43 : decode cX6_dangers 43 = .ok (.iinc 3 1, 3) := by decide +kernel
theorem dX6_dangers_46 : decode cX6_dangers 46 = .ok (.goto (-42), 3) := by decide +kernel
theorem dX6_dangers_49 : decode cX6_dangers 49 = .ok (.iload_n 2, 1) := by decide +kernel
theorem dX6_dangers_50 : decode cX6_dangers 50 = .ok (.ireturn, 1) := by decide +kernel
theorem dX6_pairs_0 : decode cX6_pairs 0 = .ok (.iconst 0, 1) := by decide +kernel
theorem dX6_pairs_1 : decode cX6_pairs 1 = .ok (.istore_n 1, 1) := by decide +kernel
theorem dX6_pairs_2 : decode cX6_pairs 2 = .ok (.iconst 0, 1) := by decide +kernel
theorem dX6_pairs_3 : decode cX6_pairs 3 = .ok (.istore_n 2, 1) := by decide +kernel
theorem dX6_pairs_4 : decode cX6_pairs 4 = .ok (.iload_n 2, 1) := by decide +kernel
theorem dX6_pairs_5 : decode cX6_pairs 5 = .ok (.aload_n 0, 1) := by decide +kernel
theorem dX6_pairs_6 : decode cX6_pairs 6 = .ok (.invokevirtual 67, 3) := by decide +kernel
theorem dX6_pairs_9 : decode cX6_pairs 9 = .ok (.if_icmp .ge 21, 3) := by decide +kernel
theorem dX6_pairs_12 : decode cX6_pairs 12 = .ok (.iload_n 1, 1) := by decide +kernel
theorem dX6_pairs_13 : decode cX6_pairs 13 = .ok (.aload_n 0, 1) := by decide +kernel
theorem dX6_pairs_14 : decode cX6_pairs 14 = .ok (.iload_n 2, 1) := by decide +kernel
theorem dX6_pairs_15 : decode cX6_pairs 15 = .ok (.iconst 3, 1) := by decide +kernel
theorem dX6_pairs_16 : decode cX6_pairs 16 = .ok (.invokevirtual 206, 3) := by decide +kernel
theorem dX6_pairs_19 : decode cX6_pairs 19 = .ok (.invokestatic 229, 3) := by decide +kernel
theorem dX6_pairs_22 : decode cX6_pairs 22 = .ok (.iadd, 1) := by decide +kernel
theorem dX6_pairs_23 : decode cX6_pairs 23 = .ok (.istore_n 1, 1) := by decide +kernel
theorem dX6_pairs_24 : decode cX6_pairs 24 = .ok (.iinc 2 1, 3) := by decide +kernel
theorem dX6_pairs_27 : decode cX6_pairs 27 = .ok (.goto (-23), 3) := by decide +kernel
theorem dX6_pairs_30 : decode cX6_pairs 30 = .ok (.iload_n 1, 1) := by decide +kernel
theorem dX6_pairs_31 : decode cX6_pairs 31 = .ok (.iconst 2, 1) := by decide +kernel
theorem dX6_pairs_32 : decode cX6_pairs 32 = .ok (.idiv, 1) := by decide +kernel
theorem dX6_pairs_33 : decode cX6_pairs 33 = .ok (.ireturn, 1) := by decide +kernel
theorem dX6_count_0 : decode cX6_count 0 = .ok (.aload_n 0, 1) := by decide +kernel
theorem dX6_count_1 : decode cX6_count 1 = .ok (.iload_n 1, 1) := by decide +kernel
theorem dX6_count_2 : decode cX6_count 2 = .ok (.iconst 0, 1) := by decide +kernel
theorem dX6_count_3 : decode cX6_count 3 = .ok (.bipush 10, 2) := by decide +kernel
theorem dX6_count_5 : decode cX6_count 5 = .ok (.invokestatic 59, 3) := by decide +kernel
theorem dX6_count_8 : decode cX6_count 8 = .ok (.ifCond .eq 7, 3) := by decide +kernel
theorem dX6_count_11 : decode cX6_count 11 = .ok (.iconst 0, 1) := by decide +kernel
theorem dX6_count_12 : decode cX6_count 12 = .ok (.goto 4, 3) := by decide +kernel
theorem dX6_count_15 : decode cX6_count 15 = .ok (.iconst 1, 1) := by decide +kernel
theorem dX6_count_16 : decode cX6_count 16 = .ok (.putfield 49, 3) := by decide +kernel
theorem dX6_count_19 : decode cX6_count 19 = .ok (.aload_n 0, 1) := by decide +kernel
theorem dX6_count_20 : decode cX6_count 20 = .ok (.getfield 49, 3) := by decide +kernel
theorem dX6_count_23 : decode cX6_count 23 = .ok (.ifCond .le 5, 3) := by decide +kernel
theorem dX6_count_26 : decode cX6_count 26 = .ok (.iconst 0, 1) := by decide +kernel
theorem dX6_count_27 : decode cX6_count 27 = .ok (.ireturn, 1) := by decide +kernel
theorem dX6_count_28 : decode cX6_count 28 = .ok (.iload_n 1, 1) := by decide +kernel
theorem dX6_count_29 : decode cX6_count 29 = .ok (.tableswitch 122 0 9 #[55, 62, 67, 72, 78, 84, 96, 102, 108, 115], 55) := by decide +kernel
theorem dX6_count_84 : decode cX6_count 84 = .ok (.aload_n 0, 1) := by decide +kernel
theorem dX6_count_85 : decode cX6_count 85 = .ok (.getfield 7, 3) := by decide +kernel
theorem dX6_count_88 : decode cX6_count 88 = .ok (.iconst 0, 1) := by decide +kernel
theorem dX6_count_89 : decode cX6_count 89 = .ok (.iaload, 1) := by decide +kernel
theorem dX6_count_90 : decode cX6_count 90 = .ok (.ireturn, 1) := by decide +kernel
theorem dX6_count_91 : decode cX6_count 91 = .ok (.aload_n 0, 1) := by decide +kernel
theorem dX6_count_92 : decode cX6_count 92 = .ok (.invokevirtual 67, 3) := by decide +kernel
theorem dX6_count_95 : decode cX6_count 95 = .ok (.ireturn, 1) := by decide +kernel
theorem dX6_count_96 : decode cX6_count 96 = .ok (.aload_n 0, 1) := by decide +kernel
theorem dX6_count_97 : decode cX6_count 97 = .ok (.invokevirtual 169, 3) := by decide +kernel
theorem dX6_count_100 : decode cX6_count 100 = .ok (.ireturn, 1) := by decide +kernel
theorem dX6_count_101 : decode cX6_count 101 = .ok (.aload_n 0, 1) := by decide +kernel
theorem dX6_count_102 : decode cX6_count 102 = .ok (.iconst 0, 1) := by decide +kernel
theorem dX6_count_103 : decode cX6_count 103 = .ok (.invokevirtual 241, 3) := by decide +kernel
theorem dX6_count_106 : decode cX6_count 106 = .ok (.ireturn, 1) := by decide +kernel
theorem dX6_count_107 : decode cX6_count 107 = .ok (.aload_n 0, 1) := by decide +kernel
theorem dX6_count_108 : decode cX6_count 108 = .ok (.iconst 2, 1) := by decide +kernel
theorem dX6_count_109 : decode cX6_count 109 = .ok (.invokevirtual 241, 3) := by decide +kernel
theorem dX6_count_112 : decode cX6_count 112 = .ok (.ireturn, 1) := by decide +kernel
theorem dX6_count_113 : decode cX6_count 113 = .ok (.aload_n 0, 1) := by decide +kernel
theorem dX6_count_114 : decode cX6_count 114 = .ok (.iconst 1, 1) := by decide +kernel
theorem dX6_count_115 : decode cX6_count 115 = .ok (.invokevirtual 241, 3) := by decide +kernel
theorem dX6_count_118 : decode cX6_count 118 = .ok (.aload_n 0, 1) := by decide +kernel
theorem dX6_count_119 : decode cX6_count 119 = .ok (.iconst 3, 1) := by decide +kernel
theorem dX6_count_120 : decode cX6_count 120 = .ok (.invokevirtual 241, 3) := by decide +kernel
theorem dX6_count_123 : decode cX6_count 123 = .ok (.isub, 1) := by decide +kernel
theorem dX6_count_124 : decode cX6_count 124 = .ok (.ireturn, 1) := by decide +kernel
theorem dX6_count_125 : decode cX6_count 125 = .ok (.aload_n 0, 1) := by decide +kernel
theorem dX6_count_126 : decode cX6_count 126 = .ok (.iconst 0, 1) := by decide +kernel
theorem dX6_count_127 : decode cX6_count 127 = .ok (.invokevirtual 244, 3) := by decide +kernel
theorem dX6_count_130 : decode cX6_count 130 = .ok (.ireturn, 1) := by decide +kernel
theorem dX6_count_131 : decode cX6_count 131 = .ok (.aload_n 0, 1) := by decide +kernel
theorem dX6_count_132 : decode cX6_count 132 = .ok (.iconst 1, 1) := by decide +kernel
theorem dX6_count_133 : decode cX6_count 133 = .ok (.invokevirtual 244, 3) := by decide +kernel
theorem dX6_count_136 : decode cX6_count 136 = .ok (.ireturn, 1) := by decide +kernel
theorem dX6_count_137 : decode cX6_count 137 = .ok (.aload_n 0, 1) := by decide +kernel
theorem dX6_count_138 : decode cX6_count 138 = .ok (.getfield 7, 3) := by decide +kernel
theorem dX6_count_141 : decode cX6_count 141 = .ok (.iconst 4, 1) := by decide +kernel
theorem dX6_count_142 : decode cX6_count 142 = .ok (.iaload, 1) := by decide +kernel
theorem dX6_count_143 : decode cX6_count 143 = .ok (.ireturn, 1) := by decide +kernel
theorem dX6_count_144 : decode cX6_count 144 = .ok (.aload_n 0, 1) := by decide +kernel
theorem dX6_count_145 : decode cX6_count 145 = .ok (.getfield 7, 3) := by decide +kernel
theorem dX6_count_148 : decode cX6_count 148 = .ok (.iconst 3, 1) := by decide +kernel
theorem dX6_count_149 : decode cX6_count 149 = .ok (.iaload, 1) := by decide +kernel
theorem dX6_count_150 : decode cX6_count 150 = .ok (.ireturn, 1) := by decide +kernel
theorem dX6_count_151 : decode cX6_count 151 = .ok (.aload_n 0, 1) := by decide +kernel
theorem dX6_count_152 : decode cX6_count 152 = .ok (.invokevirtual 248, 3) := by decide +kernel
theorem dX6_count_155 : decode cX6_count 155 = .ok (.ireturn, 1) := by decide +kernel
theorem dX6_family_0 : decode cX6_family 0 = .ok (.aload_n 0, 1) := by decide +kernel
theorem dX6_family_1 : decode cX6_family 1 = .ok (.aload_n 0, 1) := by decide +kernel
theorem dX6_family_2 : decode cX6_family 2 = .ok (.iload_n 1, 1) := by decide +kernel
theorem dX6_family_3 : decode cX6_family 3 = .ok (.invokevirtual 251, 3) := by decide +kernel
theorem dX6_family_6 : decode cX6_family 6 = .ok (.ifCond .ne 7, 3) := by decide +kernel
theorem dX6_family_9 : decode cX6_family 9 = .ok (.iconst 1, 1) := by decide +kernel
theorem dX6_family_10 : decode cX6_family 10 = .ok (.goto 18, 3) := by decide +kernel
theorem dX6_family_13 : decode cX6_family 13 = .ok (.iload_n 2, 1) := by decide +kernel
theorem dX6_family_14 : decode cX6_family 14 = .ok (.iconst 0, 1) := by decide +kernel
theorem dX6_family_15 : decode cX6_family 15 = .ok (.bipush 6, 2) := by decide +kernel
theorem dX6_family_17 : decode cX6_family 17 = .ok (.invokestatic 59, 3) := by decide +kernel
theorem dX6_family_20 : decode cX6_family 20 = .ok (.ifCond .eq 7, 3) := by decide +kernel
theorem dX6_family_23 : decode cX6_family 23 = .ok (.iconst 0, 1) := by decide +kernel
theorem dX6_family_24 : decode cX6_family 24 = .ok (.goto 4, 3) := by decide +kernel
theorem dX6_family_27 : decode cX6_family 27 = .ok (.iconst 2, 1) := by decide +kernel
theorem dX6_family_28 : decode cX6_family 28 = .ok (.putfield 49, 3) := by decide +kernel
theorem dX6_family_31 : decode cX6_family 31 = .ok (.aload_n 0, 1) := by decide +kernel
theorem dX6_family_32 : decode cX6_family 32 = .ok (.getfield 49, 3) := by decide +kernel
theorem dX6_family_35 : decode cX6_family 35 = .ok (.ifCond .le 5, 3) := by decide +kernel
theorem dX6_family_38 : decode cX6_family 38 = .ok (.iconst 0, 1) := by decide +kernel
theorem dX6_family_39 : decode cX6_family 39 = .ok (.ireturn, 1) := by decide +kernel
theorem dX6_family_40 : decode cX6_family 40 = .ok (.iload_n 2, 1) := by decide +kernel
theorem dX6_family_41 : decode cX6_family 41 = .ok (.tableswitch 80 0 5 #[39, 46, 53, 60, 67, 74], 39) := by decide +kernel
theorem dX6_family_80 : decode cX6_family 80 = .ok (.aload_n 0, 1) := by decide +kernel
theorem dX6_family_81 : decode cX6_family 81 = .ok (.iload_n 1, 1) := by decide +kernel
theorem dX6_family_82 : decode cX6_family 82 = .ok (.iconst 0, 1) := by decide +kernel
theorem dX6_family_83 : decode cX6_family 83 = .ok (.invokevirtual 206, 3) := by decide +kernel
theorem dX6_family_86 : decode cX6_family 86 = .ok (.ireturn, 1) := by decide +kernel
theorem dX6_family_87 : decode cX6_family 87 = .ok (.aload_n 0, 1) := by decide +kernel
theorem dX6_family_88 : decode cX6_family 88 = .ok (.iload_n 1, 1) := by decide +kernel
theorem dX6_family_89 : decode cX6_family 89 = .ok (.iconst 0, 1) := by decide +kernel
theorem dX6_family_90 : decode cX6_family 90 = .ok (.invokevirtual 223, 3) := by decide +kernel
theorem dX6_family_93 : decode cX6_family 93 = .ok (.ireturn, 1) := by decide +kernel
theorem dX6_family_94 : decode cX6_family 94 = .ok (.aload_n 0, 1) := by decide +kernel
theorem dX6_family_95 : decode cX6_family 95 = .ok (.iload_n 1, 1) := by decide +kernel
theorem dX6_family_96 : decode cX6_family 96 = .ok (.iconst 2, 1) := by decide +kernel
theorem dX6_family_97 : decode cX6_family 97 = .ok (.invokevirtual 223, 3) := by decide +kernel
theorem dX6_family_100 : decode cX6_family 100 = .ok (.ireturn, 1) := by decide +kernel
theorem dX6_family_101 : decode cX6_family 101 = .ok (.aload_n 0, 1) := by decide +kernel
theorem dX6_family_102 : decode cX6_family 102 = .ok (.iload_n 1, 1) := by decide +kernel
theorem dX6_family_103 : decode cX6_family 103 = .ok (.iconst 1, 1) := by decide +kernel
theorem dX6_family_104 : decode cX6_family 104 = .ok (.invokevirtual 206, 3) := by decide +kernel
theorem dX6_family_107 : decode cX6_family 107 = .ok (.ireturn, 1) := by decide +kernel
theorem dX6_family_108 : decode cX6_family 108 = .ok (.aload_n 0, 1) := by decide +kernel
theorem dX6_family_109 : decode cX6_family 109 = .ok (.iload_n 1, 1) := by decide +kernel
theorem dX6_family_110 : decode cX6_family 110 = .ok (.iconst 2, 1) := by decide +kernel
theorem dX6_family_111 : decode cX6_family 111 = .ok (.invokevirtual 206, 3) := by decide +kernel
theorem dX6_family_114 : decode cX6_family 114 = .ok (.ireturn, 1) := by decide +kernel
theorem dX6_family_115 : decode cX6_family 115 = .ok (.aload_n 0, 1) := by decide +kernel
theorem dX6_family_116 : decode cX6_family 116 = .ok (.iload_n 1, 1) := by decide +kernel
theorem dX6_family_117 : decode cX6_family 117 = .ok (.invokevirtual 254, 3) := by decide +kernel
theorem dX6_family_120 : decode cX6_family 120 = .ok (.ireturn, 1) := by decide +kernel
theorem dX6_family_121 : decode cX6_family 121 = .ok (.aload_n 0, 1) := by decide +kernel
theorem dX6_family_122 : decode cX6_family 122 = .ok (.iload_n 1, 1) := by decide +kernel
theorem dX6_family_123 : decode cX6_family 123 = .ok (.iconst 3, 1) := by decide +kernel
theorem dX6_family_124 : decode cX6_family 124 = .ok (.invokevirtual 206, 3) := by decide +kernel
theorem dX6_family_127 : decode cX6_family 127 = .ok (.ireturn, 1) := by decide +kernel
theorem dX6_picture_0 : decode cX6_picture 0 = .ok (.aload_n 0, 1) := by decide +kernel
theorem dX6_picture_1 : decode cX6_picture 1 = .ok (.aload_n 0, 1) := by decide +kernel
theorem dX6_picture_2 : decode cX6_picture 2 = .ok (.iload_n 1, 1) := by decide +kernel
theorem dX6_picture_3 : decode cX6_picture 3 = .ok (.invokevirtual 257, 3) := by decide +kernel
theorem dX6_picture_6 : decode cX6_picture 6 = .ok (.ifCond .ne 7, 3) := by decide +kernel
theorem dX6_picture_9 : decode cX6_picture 9 = .ok (.iconst 1, 1) := by decide +kernel
theorem dX6_picture_10 : decode cX6_picture 10 = .ok (.goto 17, 3) := by decide +kernel
theorem dX6_picture_13 : decode cX6_picture 13 = .ok (.iload_n 2, 1) := by decide +kernel
theorem dX6_picture_14 : decode cX6_picture 14 = .ok (.iconst 0, 1) := by decide +kernel
theorem dX6_picture_15 : decode cX6_picture 15 = .ok (.iconst 5, 1) := by decide +kernel
theorem dX6_picture_16 : decode cX6_picture 16 = .ok (.invokestatic 59, 3) := by decide +kernel
theorem dX6_picture_19 : decode cX6_picture 19 = .ok (.ifCond .eq 7, 3) := by decide +kernel
theorem dX6_picture_22 : decode cX6_picture 22 = .ok (.iconst 0, 1) := by decide +kernel
theorem dX6_picture_23 : decode cX6_picture 23 = .ok (.goto 4, 3) := by decide +kernel
theorem dX6_picture_26 : decode cX6_picture 26 = .ok (.iconst 2, 1) := by decide +kernel
theorem dX6_picture_27 : decode cX6_picture 27 = .ok (.putfield 49, 3) := by decide +kernel
theorem dX6_picture_30 : decode cX6_picture 30 = .ok (.aload_n 0, 1) := by decide +kernel
theorem dX6_picture_31 : decode cX6_picture 31 = .ok (.getfield 49, 3) := by decide +kernel
theorem dX6_picture_34 : decode cX6_picture 34 = .ok (.ifCond .le 5, 3) := by decide +kernel
theorem dX6_picture_37 : decode cX6_picture 37 = .ok (.iconst 0, 1) := by decide +kernel
theorem dX6_picture_38 : decode cX6_picture 38 = .ok (.ireturn, 1) := by decide +kernel
theorem dX6_picture_39 : decode cX6_picture 39 = .ok (.iload_n 2, 1) := by decide +kernel
theorem dX6_picture_40 : decode cX6_picture 40 = .ok (.lookupswitch 70 #[(0, 36), (4, 42), (5, 56)], 36) := by decide +kernel
theorem dX6_picture_76 : decode cX6_picture 76 = .ok (.aload_n 0, 1) := by decide +kernel
theorem dX6_picture_77 : decode cX6_picture 77 = .ok (.iload_n 1, 1) := by decide +kernel
theorem dX6_picture_78 : decode cX6_picture 78 = .ok (.invokevirtual 232, 3) := by decide +kernel
theorem dX6_picture_81 : decode cX6_picture 81 = .ok (.ireturn, 1) := by decide +kernel
theorem dX6_picture_82 : decode cX6_picture 82 = .ok (.aload_n 0, 1) := by decide +kernel
theorem dX6_picture_83 : decode cX6_picture 83 = .ok (.iload_n 1, 1) := by decide +kernel
theorem dX6_picture_84 : decode cX6_picture 84 = .ok (.invokevirtual 238, 3) := by decide +kernel
theorem dX6_picture_87 : decode cX6_picture 87 = .ok (.ifCond .eq 7, 3) := by decide +kernel
theorem dX6_picture_90 : decode cX6_picture 90 = .ok (.iconst 1, 1) := by decide +kernel
theorem dX6_picture_91 : decode cX6_picture 91 = .ok (.goto 4, 3) := by decide +kernel
theorem dX6_picture_94 : decode cX6_picture 94 = .ok (.iconst 0, 1) := by decide +kernel
theorem dX6_picture_95 : decode cX6_picture 95 = .ok (.ireturn, 1) := by decide +kernel
theorem dX6_picture_96 : decode cX6_picture 96 = .ok (.aload_n 0, 1) := by decide +kernel
theorem dX6_picture_97 : decode cX6_picture 97 = .ok (.iload_n 1, 1) := by decide +kernel
theorem dX6_picture_98 : decode cX6_picture 98 = .ok (.invokevirtual 235, 3) := by decide +kernel
theorem dX6_picture_101 : decode cX6_picture 101 = .ok (.ifCond .eq 7, 3) := by decide +kernel
theorem dX6_picture_104 : decode cX6_picture 104 = .ok (.iconst 1, 1) := by decide +kernel
theorem dX6_picture_105 : decode cX6_picture 105 = .ok (.goto 4, 3) := by decide +kernel
theorem dX6_picture_108 : decode cX6_picture 108 = .ok (.iconst 0, 1) := by decide +kernel
theorem dX6_picture_109 : decode cX6_picture 109 = .ok (.ireturn, 1) := by decide +kernel
theorem dX6_picture_110 : decode cX6_picture 110 = .ok (.aload_n 0, 1) := by decide +kernel
theorem dX6_picture_111 : decode cX6_picture 111 = .ok (.iload_n 1, 1) := by decide +kernel
theorem dX6_picture_112 : decode cX6_picture 112 = .ok (.iload_n 2, 1) := by decide +kernel
theorem dX6_picture_113 : decode cX6_picture 113 = .ok (.invokevirtual 226, 3) := by decide +kernel
theorem dX6_picture_116 : decode cX6_picture 116 = .ok (.ireturn, 1) := by decide +kernel
theorem dX6_areBoth_0 : decode cX6_areBoth 0 = .ok (.aload_n 0, 1) := by decide +kernel
theorem dX6_areBoth_1 : decode cX6_areBoth 1 = .ok (.aload_n 0, 1) := by decide +kernel
theorem dX6_areBoth_2 : decode cX6_areBoth 2 = .ok (.iload_n 1, 1) := by decide +kernel
theorem dX6_areBoth_3 : decode cX6_areBoth 3 = .ok (.invokevirtual 257, 3) := by decide +kernel
theorem dX6_areBoth_6 : decode cX6_areBoth 6 = .ok (.ifCond .eq 15, 3) := by decide +kernel
theorem dX6_areBoth_9 : decode cX6_areBoth 9 = .ok (.aload_n 0, 1) := by decide +kernel
theorem dX6_areBoth_10 : decode cX6_areBoth 10 = .ok (.iload_n 2, 1) := by decide +kernel
theorem dX6_areBoth_11 : decode cX6_areBoth 11 = .ok (.invokevirtual 251, 3) := by decide +kernel
theorem dX6_areBoth_14 : decode cX6_areBoth 14 = .ok (.ifCond .eq 7, 3) := by decide +kernel
theorem dX6_areBoth_17 : decode cX6_areBoth 17 = .ok (.iconst 0, 1) := by decide +kernel
theorem dX6_areBoth_18 : decode cX6_areBoth 18 = .ok (.goto 4, 3) := by decide +kernel
theorem dX6_areBoth_21 : decode cX6_areBoth 21 = .ok (.iconst 1, 1) := by decide +kernel
theorem dX6_areBoth_22 : decode cX6_areBoth 22 = .ok (.putfield 49, 3) := by decide +kernel
theorem dX6_areBoth_25 : decode cX6_areBoth 25 = .ok (.aload_n 0, 1) := by decide +kernel
theorem dX6_areBoth_26 : decode cX6_areBoth 26 = .ok (.getfield 49, 3) := by decide +kernel
theorem dX6_areBoth_29 : decode cX6_areBoth 29 = .ok (.ifCond .ne 7, 3) := by decide +kernel
theorem dX6_areBoth_32 : decode cX6_areBoth 32 = .ok (.iconst 1, 1) := by decide +kernel
theorem dX6_areBoth_33 : decode cX6_areBoth 33 = .ok (.goto 4, 3) := by decide +kernel
theorem dX6_areBoth_36 : decode cX6_areBoth 36 = .ok (.iconst 0, 1) := by decide +kernel
theorem dX6_areBoth_37 : decode cX6_areBoth 37 = .ok (.ireturn, 1) := by decide +kernel
theorem dX6_copy_0 : decode cX6_copy 0 = .ok (.aload_n 0, 1) := by decide +kernel
theorem dX6_copy_1 : decode cX6_copy 1 = .ok (.iload_n 1, 1) := by decide +kernel
theorem dX6_copy_2 : decode cX6_copy 2 = .ok (.iload_n 2, 1) := by decide +kernel
theorem dX6_copy_3 : decode cX6_copy 3 = .ok (.invokevirtual 260, 3) := by decide +kernel
theorem dX6_copy_6 : decode cX6_copy 6 = .ok (.ifCond .ne 5, 3) := by decide +kernel
theorem dX6_copy_9 : decode cX6_copy 9 = .ok (.iconst 0, 1) := by decide +kernel
theorem dX6_copy_10 : decode cX6_copy 10 = .ok (.ireturn, 1) := by decide +kernel
theorem dX6_copy_11 : decode cX6_copy 11 = .ok (.aload_n 0, 1) := by decide +kernel
theorem dX6_copy_12 : decode cX6_copy 12 = .ok (.iload_n 1, 1) := by decide +kernel
theorem dX6_copy_13 : decode cX6_copy 13 = .ok (.iload_n 2, 1) := by decide +kernel
theorem dX6_copy_14 : decode cX6_copy 14 = .ok (.invokevirtual 182, 3) := by decide +kernel
theorem dX6_copy_17 : decode cX6_copy 17 = .ok (.istore_n 3, 1) := by decide +kernel
theorem dX6_copy_18 : decode cX6_copy 18 = .ok (.iload_n 3, 1) := by decide +kernel
theorem dX6_copy_19 : decode cX6_copy 19 = .ok (.ifCond .ne 7, 3) := by decide +kernel
theorem dX6_copy_22 : decode cX6_copy 22 = .ok (.iconst (-1), 1) := by decide +kernel
theorem dX6_copy_23 : decode cX6_copy 23 = .ok (.goto 8, 3) := by decide +kernel
theorem dX6_copy_26 : decode cX6_copy 26 = .ok (.iload_n 3, 1) := by decide +kernel
theorem dX6_copy_27 : decode cX6_copy 27 = .ok (.ldc_w 263, 3) := by decide +kernel
theorem dX6_copy_30 : decode cX6_copy 30 = .ok (.iand, 1) := by decide +kernel
theorem dX6_copy_31 : decode cX6_copy 31 = .ok (.ireturn, 1) := by decide +kernel
theorem dX6_why_0 : decode cX6_why 0 = .ok (.aload_n 0, 1) := by decide +kernel
theorem dX6_why_1 : decode cX6_why 1 = .ok (.iload_n 1, 1) := by decide +kernel
theorem dX6_why_2 : decode cX6_why 2 = .ok (.iload_n 2, 1) := by decide +kernel
theorem dX6_why_3 : decode cX6_why 3 = .ok (.invokevirtual 260, 3) := by decide +kernel
theorem dX6_why_6 : decode cX6_why 6 = .ok (.ifCond .ne 5, 3) := by decide +kernel
theorem dX6_why_9 : decode cX6_why 9 = .ok (.iconst 0, 1) := by decide +kernel
theorem dX6_why_10 : decode cX6_why 10 = .ok (.ireturn, 1) := by decide +kernel
theorem dX6_why_11 : decode cX6_why 11 = .ok (.aload_n 0, 1) := by decide +kernel
theorem dX6_why_12 : decode cX6_why 12 = .ok (.iload_n 1, 1) := by decide +kernel
theorem dX6_why_13 : decode cX6_why 13 = .ok (.iload_n 2, 1) := by decide +kernel
theorem dX6_why_14 : decode cX6_why 14 = .ok (.invokevirtual 182, 3) := by decide +kernel
theorem dX6_why_17 : decode cX6_why 17 = .ok (.istore_n 3, 1) := by decide +kernel
theorem dX6_why_18 : decode cX6_why 18 = .ok (.iload_n 3, 1) := by decide +kernel
theorem dX6_why_19 : decode cX6_why 19 = .ok (.ifCond .ne 7, 3) := by decide +kernel
theorem dX6_why_22 : decode cX6_why 22 = .ok (.iconst 1, 1) := by decide +kernel
theorem dX6_why_23 : decode cX6_why 23 = .ok (.goto 26, 3) := by decide +kernel
theorem dX6_why_26 : decode cX6_why 26 = .ok (.iload_n 3, 1) := by decide +kernel
theorem dX6_why_27 : decode cX6_why 27 = .ok (.invokestatic 214, 3) := by decide +kernel
theorem dX6_why_30 : decode cX6_why 30 = .ok (.ifCond .eq 7, 3) := by decide +kernel
theorem dX6_why_33 : decode cX6_why 33 = .ok (.iconst 2, 1) := by decide +kernel
theorem dX6_why_34 : decode cX6_why 34 = .ok (.goto 15, 3) := by decide +kernel
theorem dX6_why_37 : decode cX6_why 37 = .ok (.iload_n 3, 1) := by decide +kernel
theorem dX6_why_38 : decode cX6_why 38 = .ok (.invokestatic 217, 3) := by decide +kernel
theorem dX6_why_41 : decode cX6_why 41 = .ok (.ifCond .eq 7, 3) := by decide +kernel
theorem dX6_why_44 : decode cX6_why 44 = .ok (.iconst 0, 1) := by decide +kernel
theorem dX6_why_45 : decode cX6_why 45 = .ok (.goto 4, 3) := by decide +kernel
theorem dX6_why_48 : decode cX6_why 48 = .ok (.iconst 3, 1) := by decide +kernel
theorem dX6_why_49 : decode cX6_why 49 = .ok (.ireturn, 1) := by decide +kernel
theorem dX6_asks_0 : decode cX6_asks 0 = .ok (.aload_n 0, 1) := by decide +kernel
theorem dX6_asks_1 : decode cX6_asks 1 = .ok (.iload_n 1, 1) := by decide +kernel
theorem dX6_asks_2 : decode cX6_asks 2 = .ok (.iload_n 2, 1) := by decide +kernel
theorem dX6_asks_3 : decode cX6_asks 3 = .ok (.invokevirtual 182, 3) := by decide +kernel
theorem dX6_asks_6 : decode cX6_asks 6 = .ok (.iload_n 3, 1) := by decide +kernel
theorem dX6_asks_7 : decode cX6_asks 7 = .ok (.ishr, 1) := by decide +kernel
theorem dX6_asks_8 : decode cX6_asks 8 = .ok (.iconst 1, 1) := by decide +kernel
theorem dX6_asks_9 : decode cX6_asks 9 = .ok (.iand, 1) := by decide +kernel
theorem dX6_asks_10 : decode cX6_asks 10 = .ok (.ifCond .ne 7, 3) := by decide +kernel
theorem dX6_asks_13 : decode cX6_asks 13 = .ok (.iconst 1, 1) := by decide +kernel
theorem dX6_asks_14 : decode cX6_asks 14 = .ok (.goto 4, 3) := by decide +kernel
theorem dX6_asks_17 : decode cX6_asks 17 = .ok (.iconst 0, 1) := by decide +kernel
theorem dX6_asks_18 : decode cX6_asks 18 = .ok (.istore 4, 2) := by decide +kernel
theorem dX6_asks_20 : decode cX6_asks 20 = .ok (.iload 4, 2) := by decide +kernel
theorem dX6_asks_22 : decode cX6_asks 22 = .ok (.ifCond .eq 7, 3) := by decide +kernel
theorem dX6_asks_25 : decode cX6_asks 25 = .ok (.iconst 1, 1) := by decide +kernel
theorem dX6_asks_26 : decode cX6_asks 26 = .ok (.goto 4, 3) := by decide +kernel
theorem dX6_asks_29 : decode cX6_asks 29 = .ok (.iconst 2, 1) := by decide +kernel
theorem dX6_asks_30 : decode cX6_asks 30 = .ok (.istore 5, 2) := by decide +kernel
theorem dX6_asks_32 : decode cX6_asks 32 = .ok (.aload_n 0, 1) := by decide +kernel
theorem dX6_asks_33 : decode cX6_asks 33 = .ok (.iload_n 2, 1) := by decide +kernel
theorem dX6_asks_34 : decode cX6_asks 34 = .ok (.iload 5, 2) := by decide +kernel
theorem dX6_asks_36 : decode cX6_asks 36 = .ok (.aload_n 0, 1) := by decide +kernel
theorem dX6_asks_37 : decode cX6_asks 37 = .ok (.iload_n 2, 1) := by decide +kernel
theorem dX6_asks_38 : decode cX6_asks 38 = .ok (.iload 5, 2) := by decide +kernel
theorem dX6_asks_40 : decode cX6_asks 40 = .ok (.invokevirtual 206, 3) := by decide +kernel
theorem dX6_asks_43 : decode cX6_asks 43 = .ok (.iconst 1, 1) := by decide +kernel
theorem dX6_asks_44 : decode cX6_asks 44 = .ok (.iadd, 1) := by decide +kernel
theorem dX6_asks_45 : decode cX6_asks 45 = .ok (.invokevirtual 45, 3) := by decide +kernel
theorem dX6_asks_48 : decode cX6_asks 48 = .ok (.aload_n 0, 1) := by decide +kernel
theorem dX6_asks_49 : decode cX6_asks 49 = .ok (.getfield 7, 3) := by decide +kernel
theorem dX6_asks_52 : decode cX6_asks 52 = .ok (.iconst 4, 1) := by decide +kernel
theorem dX6_asks_53 : decode cX6_asks 53 = .ok (.dup2, 1) := by decide +kernel
theorem dX6_asks_54 : decode cX6_asks 54 = .ok (.iaload, 1) := by decide +kernel
theorem dX6_asks_55 : decode cX6_asks 55 = .ok (.iconst 1, 1) := by decide +kernel
theorem dX6_asks_56 : decode cX6_asks 56 = .ok (.iadd, 1) := by decide +kernel
theorem dX6_asks_57 : decode cX6_asks 57 = .ok (.iastore, 1) := by decide +kernel
theorem dX6_asks_58 : decode cX6_asks 58 = .ok (.iload 4, 2) := by decide +kernel
theorem dX6_asks_60 : decode cX6_asks 60 = .ok (.ifCond .ne 18, 3) := by decide +kernel
theorem dX6_asks_63 : decode cX6_asks 63 = .ok (.aload_n 0, 1) := by decide +kernel
theorem dX6_asks_64 : decode cX6_asks 64 = .ok (.iload_n 1, 1) := by decide +kernel
theorem dX6_asks_65 : decode cX6_asks 65 = .ok (.iload_n 2, 1) := by decide +kernel
theorem dX6_asks_66 : decode cX6_asks 66 = .ok (.aload_n 0, 1) := by decide +kernel
theorem dX6_asks_67 : decode cX6_asks 67 = .ok (.iload_n 1, 1) := by decide +kernel
theorem dX6_asks_68 : decode cX6_asks 68 = .ok (.iload_n 2, 1) := by decide +kernel
theorem dX6_asks_69 : decode cX6_asks 69 = .ok (.invokevirtual 182, 3) := by decide +kernel
theorem dX6_asks_72 : decode cX6_asks 72 = .ok (.ldc 210, 2) := by decide +kernel
theorem dX6_asks_74 : decode cX6_asks 74 = .ok (.ior, 1) := by decide +kernel
theorem dX6_asks_75 : decode cX6_asks 75 = .ok (.invokevirtual 172, 3) := by decide +kernel
theorem dX6_asks_78 : decode cX6_asks 78 = .ok (.iload 4, 2) := by decide +kernel
theorem dX6_asks_80 : decode cX6_asks 80 = .ok (.ireturn, 1) := by decide +kernel
theorem dX6_rounds_0 : decode cX6_rounds 0 = .ok (.iconst 0, 1) := by decide +kernel
theorem dX6_rounds_1 : decode cX6_rounds 1 = .ok (.istore_n 1, 1) := by decide +kernel
theorem dX6_rounds_2 : decode cX6_rounds 2 = .ok (.iconst 0, 1) := by decide +kernel
theorem dX6_rounds_3 : decode cX6_rounds 3 = .ok (.istore_n 2, 1) := by decide +kernel
theorem dX6_rounds_4 : decode cX6_rounds 4 = .ok (.iload_n 2, 1) := by decide +kernel
theorem dX6_rounds_5 : decode cX6_rounds 5 = .ok (.aload_n 0, 1) := by decide +kernel
theorem dX6_rounds_6 : decode cX6_rounds 6 = .ok (.invokevirtual 169, 3) := by decide +kernel
theorem dX6_rounds_9 : decode cX6_rounds 9 = .ok (.if_icmp .ge 93, 3) := by decide +kernel
theorem dX6_rounds_12 : decode cX6_rounds 12 = .ok (.iconst 0, 1) := by decide +kernel
theorem dX6_rounds_13 : decode cX6_rounds 13 = .ok (.istore_n 3, 1) := by decide +kernel
theorem dX6_rounds_14 : decode cX6_rounds 14 = .ok (.iload_n 3, 1) := by decide +kernel
theorem dX6_rounds_15 : decode cX6_rounds 15 = .ok (.aload_n 0, 1) := by decide +kernel
theorem dX6_rounds_16 : decode cX6_rounds 16 = .ok (.invokevirtual 67, 3) := by decide +kernel
theorem dX6_rounds_19 : decode cX6_rounds 19 = .ok (.if_icmp .ge 77, 3) := by decide +kernel
theorem dX6_rounds_22 : decode cX6_rounds 22 = .ok (.aload_n 0, 1) := by decide +kernel
theorem dX6_rounds_23 : decode cX6_rounds 23 = .ok (.iload_n 2, 1) := by decide +kernel
theorem dX6_rounds_24 : decode cX6_rounds 24 = .ok (.iload_n 3, 1) := by decide +kernel
theorem dX6_rounds_25 : decode cX6_rounds 25 = .ok (.invokevirtual 182, 3) := by decide +kernel
theorem dX6_rounds_28 : decode cX6_rounds 28 = .ok (.invokestatic 211, 3) := by decide +kernel
theorem dX6_rounds_31 : decode cX6_rounds 31 = .ok (.ifCond .ne 6, 3) := by decide +kernel
theorem dX6_rounds_34 : decode cX6_rounds 34 = .ok (.goto 56, 3) := by decide +kernel
theorem dX6_rounds_37 : decode cX6_rounds 37 = .ok (.aload_n 0, 1) := by decide +kernel
theorem dX6_rounds_38 : decode cX6_rounds 38 = .ok (.ldc2_w 264, 3) := by decide +kernel
theorem dX6_rounds_41 : decode cX6_rounds 41 = .ok (.aload_n 0, 1) := by decide +kernel
theorem dX6_rounds_42 : decode cX6_rounds 42 = .ok (.getfield 266, 3) := by decide +kernel
theorem dX6_rounds_45 : decode cX6_rounds 45 = .ok (.lmul, 1) := by decide +kernel
theorem dX6_rounds_46 : decode cX6_rounds 46 = .ok (.ldc2_w 270, 3) := by decide +kernel
theorem dX6_rounds_49 : decode cX6_rounds 49 = .ok (.ladd, 1) := by decide +kernel
theorem dX6_rounds_50 : decode cX6_rounds 50 = .ok (.ldc2_w 272, 3) := by decide +kernel
theorem dX6_rounds_53 : decode cX6_rounds 53 = .ok (.lrem, 1) := by decide +kernel
theorem dX6_rounds_54 : decode cX6_rounds 54 = .ok (.putfield 266, 3) := by decide +kernel
theorem dX6_rounds_57 : decode cX6_rounds 57 = .ok (.iload_n 1, 1) := by decide +kernel
theorem dX6_rounds_58 : decode cX6_rounds 58 = .ok (.aload_n 0, 1) := by decide +kernel
theorem dX6_rounds_59 : decode cX6_rounds 59 = .ok (.iload_n 2, 1) := by decide +kernel
theorem dX6_rounds_60 : decode cX6_rounds 60 = .ok (.iload_n 3, 1) := by decide +kernel
theorem dX6_rounds_61 : decode cX6_rounds 61 = .ok (.aload_n 0, 1) := by decide +kernel
theorem dX6_rounds_62 : decode cX6_rounds 62 = .ok (.getfield 266, 3) := by decide +kernel
theorem dX6_rounds_65 : decode cX6_rounds 65 = .ok (.ldc2_w 274, 3) := by decide +kernel
theorem dX6_rounds_68 : decode cX6_rounds 68 = .ok (.ldiv, 1) := by decide +kernel
theorem dX6_rounds_69 : decode cX6_rounds 69 = .ok (.l2i, 1) := by decide +kernel
theorem dX6_rounds_70 : decode cX6_rounds 70 = .ok (.aload_n 0, 1) := by decide +kernel
theorem dX6_rounds_71 : decode cX6_rounds 71 = .ok (.getfield 7, 3) := by decide +kernel
theorem dX6_rounds_74 : decode cX6_rounds 74 = .ok (.iconst 0, 1) := by decide +kernel
theorem dX6_rounds_75 : decode cX6_rounds 75 = .ok (.iaload, 1) := by decide +kernel
theorem dX6_rounds_76 : decode cX6_rounds 76 = .ok (.irem, 1) := by decide +kernel
theorem dX6_rounds_77 : decode cX6_rounds 77 = .ok (.invokevirtual 276, 3) := by decide +kernel
theorem dX6_rounds_80 : decode cX6_rounds 80 = .ok (.ifCond .eq 7, 3) := by decide +kernel
theorem dX6_rounds_83 : decode cX6_rounds 83 = .ok (.iconst 0, 1) := by decide +kernel
theorem dX6_rounds_84 : decode cX6_rounds 84 = .ok (.goto 4, 3) := by decide +kernel
theorem dX6_rounds_87 : decode cX6_rounds 87 = .ok (.iconst 1, 1) := by decide +kernel
theorem dX6_rounds_88 : decode cX6_rounds 88 = .ok (.iadd, 1) := by decide +kernel
theorem dX6_rounds_89 : decode cX6_rounds 89 = .ok (.istore_n 1, 1) := by decide +kernel
theorem dX6_rounds_90 : decode cX6_rounds 90 = .ok (.iinc 3 1, 3) := by decide +kernel
theorem dX6_rounds_93 : decode cX6_rounds 93 = .ok (.goto (-79), 3) := by decide +kernel
theorem dX6_rounds_96 : decode cX6_rounds 96 = .ok (.iinc 2 1, 3) := by decide +kernel
theorem dX6_rounds_99 : decode cX6_rounds 99 = .ok (.goto (-95), 3) := by decide +kernel
theorem dX6_rounds_102 : decode cX6_rounds 102 = .ok (.iload_n 1, 1) := by decide +kernel
theorem dX6_rounds_103 : decode cX6_rounds 103 = .ok (.ireturn, 1) := by decide +kernel
theorem dX6_chance_0 : decode cX6_chance 0 = .ok (.aload_n 0, 1) := by decide +kernel
theorem dX6_chance_1 : decode cX6_chance 1 = .ok (.iload_n 1, 1) := by decide +kernel
theorem dX6_chance_2 : decode cX6_chance 2 = .ok (.iload_n 2, 1) := by decide +kernel
theorem dX6_chance_3 : decode cX6_chance 3 = .ok (.invokevirtual 260, 3) := by decide +kernel
theorem dX6_chance_6 : decode cX6_chance 6 = .ok (.ifCond .ne 5, 3) := by decide +kernel
theorem dX6_chance_9 : decode cX6_chance 9 = .ok (.dconst 0, 1) := by decide +kernel
theorem dX6_chance_10 : decode cX6_chance 10 = .ok (.dreturn, 1) := by decide +kernel
theorem dX6_chance_11 : decode cX6_chance 11 = .ok (.aload_n 0, 1) := by decide +kernel
theorem dX6_chance_12 : decode cX6_chance 12 = .ok (.aload_n 0, 1) := by decide +kernel
theorem dX6_chance_13 : decode cX6_chance 13 = .ok (.iload_n 1, 1) := by decide +kernel
theorem dX6_chance_14 : decode cX6_chance 14 = .ok (.iload_n 2, 1) := by decide +kernel
theorem dX6_chance_15 : decode cX6_chance 15 = .ok (.invokevirtual 182, 3) := by decide +kernel
theorem dX6_chance_18 : decode cX6_chance 18 = .ok (.invokestatic 211, 3) := by decide +kernel
theorem dX6_chance_21 : decode cX6_chance 21 = .ok (.ifCond .ne 7, 3) := by decide +kernel
theorem dX6_chance_24 : decode cX6_chance 24 = .ok (.iconst 2, 1) := by decide +kernel
theorem dX6_chance_25 : decode cX6_chance 25 = .ok (.goto 22, 3) := by decide +kernel
theorem dX6_chance_28 : decode cX6_chance 28 = .ok (.iload_n 3, 1) := by decide +kernel
theorem dX6_chance_29 : decode cX6_chance 29 = .ok (.iconst 0, 1) := by decide +kernel
theorem dX6_chance_30 : decode cX6_chance 30 = .ok (.aload_n 0, 1) := by decide +kernel
theorem dX6_chance_31 : decode cX6_chance 31 = .ok (.getfield 7, 3) := by decide +kernel
theorem dX6_chance_34 : decode cX6_chance 34 = .ok (.iconst 0, 1) := by decide +kernel
theorem dX6_chance_35 : decode cX6_chance 35 = .ok (.iaload, 1) := by decide +kernel
theorem dX6_chance_36 : decode cX6_chance 36 = .ok (.invokestatic 59, 3) := by decide +kernel
theorem dX6_chance_39 : decode cX6_chance 39 = .ok (.ifCond .eq 7, 3) := by decide +kernel
theorem dX6_chance_42 : decode cX6_chance 42 = .ok (.iconst 0, 1) := by decide +kernel
theorem dX6_chance_43 : decode cX6_chance 43 = .ok (.goto 4, 3) := by decide +kernel
theorem dX6_chance_46 : decode cX6_chance 46 = .ok (.iconst 3, 1) := by decide +kernel
theorem dX6_chance_47 : decode cX6_chance 47 = .ok (.putfield 49, 3) := by decide +kernel
theorem dX6_chance_50 : decode cX6_chance 50 = .ok (.aload_n 0, 1) := by decide +kernel
theorem dX6_chance_51 : decode cX6_chance 51 = .ok (.getfield 49, 3) := by decide +kernel
theorem dX6_chance_54 : decode cX6_chance 54 = .ok (.ifCond .le 5, 3) := by decide +kernel
theorem dX6_chance_57 : decode cX6_chance 57 = .ok (.dconst 0, 1) := by decide +kernel
theorem dX6_chance_58 : decode cX6_chance 58 = .ok (.dreturn, 1) := by decide +kernel
theorem dX6_chance_59 : decode cX6_chance 59 = .ok (.aload_n 0, 1) := by decide +kernel
theorem dX6_chance_60 : decode cX6_chance 60 = .ok (.getfield 7, 3) := by decide +kernel
theorem dX6_chance_63 : decode cX6_chance 63 = .ok (.iconst 0, 1) := by decide +kernel
theorem dX6_chance_64 : decode cX6_chance 64 = .ok (.iaload, 1) := by decide +kernel
theorem dX6_chance_65 : decode cX6_chance 65 = .ok (.istore 4, 2) := by decide +kernel
theorem dX6_chance_67 : decode cX6_chance 67 = .ok (.aload_n 0, 1) := by decide +kernel
theorem dX6_chance_68 : decode cX6_chance 68 = .ok (.iload_n 1, 1) := by decide +kernel
theorem dX6_chance_69 : decode cX6_chance 69 = .ok (.iload_n 2, 1) := by decide +kernel
theorem dX6_chance_70 : decode cX6_chance 70 = .ok (.invokevirtual 182, 3) := by decide +kernel
theorem dX6_chance_73 : decode cX6_chance 73 = .ok (.ldc_w 263, 3) := by decide +kernel
theorem dX6_chance_76 : decode cX6_chance 76 = .ok (.iand, 1) := by decide +kernel
theorem dX6_chance_77 : decode cX6_chance 77 = .ok (.invokestatic 229, 3) := by decide +kernel
theorem dX6_chance_80 : decode cX6_chance 80 = .ok (.istore 5, 2) := by decide +kernel
theorem dX6_chance_82 : decode cX6_chance 82 = .ok (.dconst 1, 1) := by decide +kernel
theorem dX6_chance_83 : decode cX6_chance 83 = .ok (.dstore 6, 2) := by decide +kernel
theorem dX6_chance_85 : decode cX6_chance 85 = .ok (.iconst 0, 1) := by decide +kernel
theorem dX6_chance_86 : decode cX6_chance 86 = .ok (.istore 8, 2) := by decide +kernel
theorem dX6_chance_88 : decode cX6_chance 88 = .ok (.iload 8, 2) := by decide +kernel
theorem dX6_chance_90 : decode cX6_chance 90 = .ok (.iload_n 3, 1) := by decide +kernel
theorem dX6_chance_91 : decode cX6_chance 91 = .ok (.if_icmp .ge 52, 3) := by decide +kernel
theorem dX6_chance_94 : decode cX6_chance 94 = .ok (.dload 6, 2) := by decide +kernel
theorem dX6_chance_96 : decode cX6_chance 96 = .ok (.dconst 0, 1) := by decide +kernel
theorem dX6_chance_97 : decode cX6_chance 97 = .ok (.dcmp .l, 1) := by decide +kernel
theorem dX6_chance_98 : decode cX6_chance 98 = .ok (.ifCond .le 45, 3) := by decide +kernel
theorem dX6_chance_101 : decode cX6_chance 101 = .ok (.iload 4, 2) := by decide +kernel
theorem dX6_chance_103 : decode cX6_chance 103 = .ok (.iload 5, 2) := by decide +kernel
theorem dX6_chance_105 : decode cX6_chance 105 = .ok (.isub, 1) := by decide +kernel
theorem dX6_chance_106 : decode cX6_chance 106 = .ok (.iload 8, 2) := by decide +kernel
theorem dX6_chance_108 : decode cX6_chance 108 = .ok (.isub, 1) := by decide +kernel
theorem dX6_chance_109 : decode cX6_chance 109 = .ok (.ifCond .ne 7, 3) := by decide +kernel
theorem dX6_chance_112 : decode cX6_chance 112 = .ok (.dconst 0, 1) := by decide +kernel
theorem dX6_chance_113 : decode cX6_chance 113 = .ok (.goto 22, 3) := by decide +kernel
theorem dX6_chance_116 : decode cX6_chance 116 = .ok (.dload 6, 2) := by decide +kernel
theorem dX6_chance_118 : decode cX6_chance 118 = .ok (.iload 4, 2) := by decide +kernel
theorem dX6_chance_120 : decode cX6_chance 120 = .ok (.iload 5, 2) := by decide +kernel
theorem dX6_chance_122 : decode cX6_chance 122 = .ok (.isub, 1) := by decide +kernel
theorem dX6_chance_123 : decode cX6_chance 123 = .ok (.iload 8, 2) := by decide +kernel
theorem dX6_chance_125 : decode cX6_chance 125 = .ok (.isub, 1) := by decide +kernel
theorem dX6_chance_126 : decode cX6_chance 126 = .ok (.i2d, 1) := by decide +kernel
theorem dX6_chance_127 : decode cX6_chance 127 = .ok (.iload 4, 2) := by decide +kernel
theorem dX6_chance_129 : decode cX6_chance 129 = .ok (.iload 8, 2) := by decide +kernel
theorem dX6_chance_131 : decode cX6_chance 131 = .ok (.isub, 1) := by decide +kernel
theorem dX6_chance_132 : decode cX6_chance 132 = .ok (.i2d, 1) := by decide +kernel
theorem dX6_chance_133 : decode cX6_chance 133 = .ok (.ddiv, 1) := by decide +kernel
theorem dX6_chance_134 : decode cX6_chance 134 = .ok (.dmul, 1) := by decide +kernel
theorem dX6_chance_135 : decode cX6_chance 135 = .ok (.dstore 6, 2) := by decide +kernel
theorem dX6_chance_137 : decode cX6_chance 137 = .ok (.iinc 8 1, 3) := by decide +kernel
theorem dX6_chance_140 : decode cX6_chance 140 = .ok (.goto (-52), 3) := by decide +kernel
theorem dX6_chance_143 : decode cX6_chance 143 = .ok (.dconst 1, 1) := by decide +kernel
theorem dX6_chance_144 : decode cX6_chance 144 = .ok (.dload 6, 2) := by decide +kernel
theorem dX6_chance_146 : decode cX6_chance 146 = .ok (.dsub, 1) := by decide +kernel
theorem dX6_chance_147 : decode cX6_chance 147 = .ok (.dreturn, 1) := by decide +kernel
theorem dX6_bestTile_0 : decode cX6_bestTile 0 = .ok (.aload_n 0, 1) := by decide +kernel
theorem dX6_bestTile_1 : decode cX6_bestTile 1 = .ok (.aload_n 0, 1) := by decide +kernel
theorem dX6_bestTile_2 : decode cX6_bestTile 2 = .ok (.iload_n 1, 1) := by decide +kernel
theorem dX6_bestTile_3 : decode cX6_bestTile 3 = .ok (.invokevirtual 257, 3) := by decide +kernel
theorem dX6_bestTile_6 : decode cX6_bestTile 6 = .ok (.ifCond .eq 7, 3) := by decide +kernel
theorem dX6_bestTile_9 : decode cX6_bestTile 9 = .ok (.iconst 0, 1) := by decide +kernel
theorem dX6_bestTile_10 : decode cX6_bestTile 10 = .ok (.goto 4, 3) := by decide +kernel
theorem dX6_bestTile_13 : decode cX6_bestTile 13 = .ok (.iconst 1, 1) := by decide +kernel
theorem dX6_bestTile_14 : decode cX6_bestTile 14 = .ok (.putfield 49, 3) := by decide +kernel
theorem dX6_bestTile_17 : decode cX6_bestTile 17 = .ok (.aload_n 0, 1) := by decide +kernel
theorem dX6_bestTile_18 : decode cX6_bestTile 18 = .ok (.getfield 49, 3) := by decide +kernel
theorem dX6_bestTile_21 : decode cX6_bestTile 21 = .ok (.ifCond .le 5, 3) := by decide +kernel
theorem dX6_bestTile_24 : decode cX6_bestTile 24 = .ok (.iconst 0, 1) := by decide +kernel
theorem dX6_bestTile_25 : decode cX6_bestTile 25 = .ok (.ireturn, 1) := by decide +kernel
theorem dX6_bestTile_26 : decode cX6_bestTile 26 = .ok (.iconst (-1), 1) := by decide +kernel
theorem dX6_bestTile_27 : decode cX6_bestTile 27 = .ok (.istore_n 2, 1) := by decide +kernel
theorem dX6_bestTile_28 : decode cX6_bestTile 28 = .ok (.iconst 0, 1) := by decide +kernel
theorem dX6_bestTile_29 : decode cX6_bestTile 29 = .ok (.istore_n 3, 1) := by decide +kernel
theorem dX6_bestTile_30 : decode cX6_bestTile 30 = .ok (.iconst 0, 1) := by decide +kernel
theorem dX6_bestTile_31 : decode cX6_bestTile 31 = .ok (.istore 4, 2) := by decide +kernel
theorem dX6_bestTile_33 : decode cX6_bestTile 33 = .ok (.iload 4, 2) := by decide +kernel
theorem dX6_bestTile_35 : decode cX6_bestTile 35 = .ok (.aload_n 0, 1) := by decide +kernel
theorem dX6_bestTile_36 : decode cX6_bestTile 36 = .ok (.getfield 7, 3) := by decide +kernel
theorem dX6_bestTile_39 : decode cX6_bestTile 39 = .ok (.iconst 0, 1) := by decide +kernel
theorem dX6_bestTile_40 : decode cX6_bestTile 40 = .ok (.iaload, 1) := by decide +kernel
theorem dX6_bestTile_41 : decode cX6_bestTile 41 = .ok (.if_icmp .ge 79, 3) := by decide +kernel
theorem dX6_bestTile_44 : decode cX6_bestTile 44 = .ok (.iconst 0, 1) := by decide +kernel
theorem dX6_bestTile_45 : decode cX6_bestTile 45 = .ok (.istore 5, 2) := by decide +kernel
theorem dX6_bestTile_47 : decode cX6_bestTile 47 = .ok (.iconst 0, 1) := by decide +kernel
theorem dX6_bestTile_48 : decode cX6_bestTile 48 = .ok (.istore 6, 2) := by decide +kernel
theorem dX6_bestTile_50 : decode cX6_bestTile 50 = .ok (.iload 6, 2) := by decide +kernel
theorem dX6_bestTile_52 : decode cX6_bestTile 52 = .ok (.aload_n 0, 1) := by decide +kernel
theorem dX6_bestTile_53 : decode cX6_bestTile 53 = .ok (.invokevirtual 67, 3) := by decide +kernel
theorem dX6_bestTile_56 : decode cX6_bestTile 56 = .ok (.if_icmp .ge 43, 3) := by decide +kernel
theorem dX6_bestTile_59 : decode cX6_bestTile 59 = .ok (.iload 5, 2) := by decide +kernel
theorem dX6_bestTile_61 : decode cX6_bestTile 61 = .ok (.aload_n 0, 1) := by decide +kernel
theorem dX6_bestTile_62 : decode cX6_bestTile 62 = .ok (.iload_n 1, 1) := by decide +kernel
theorem dX6_bestTile_63 : decode cX6_bestTile 63 = .ok (.iload 6, 2) := by decide +kernel
theorem dX6_bestTile_65 : decode cX6_bestTile 65 = .ok (.invokevirtual 182, 3) := by decide +kernel
theorem dX6_bestTile_68 : decode cX6_bestTile 68 = .ok (.invokestatic 211, 3) := by decide +kernel
theorem dX6_bestTile_71 : decode cX6_bestTile 71 = .ok (.ifCond .eq 18, 3) := by decide +kernel
theorem dX6_bestTile_74 : decode cX6_bestTile 74 = .ok (.aload_n 0, 1) := by decide +kernel
theorem dX6_bestTile_75 : decode cX6_bestTile 75 = .ok (.iload_n 1, 1) := by decide +kernel
theorem dX6_bestTile_76 : decode cX6_bestTile 76 = .ok (.iload 6, 2) := by decide +kernel
theorem dX6_bestTile_78 : decode cX6_bestTile 78 = .ok (.invokevirtual 182, 3) := by decide +kernel
theorem dX6_bestTile_81 : decode cX6_bestTile 81 = .ok (.iload 4, 2) := by decide +kernel
theorem dX6_bestTile_83 : decode cX6_bestTile 83 = .ok (.ishr, 1) := by decide +kernel
theorem dX6_bestTile_84 : decode cX6_bestTile 84 = .ok (.iconst 1, 1) := by decide +kernel
theorem dX6_bestTile_85 : decode cX6_bestTile 85 = .ok (.iand, 1) := by decide +kernel
theorem dX6_bestTile_86 : decode cX6_bestTile 86 = .ok (.goto 4, 3) := by decide +kernel
theorem dX6_bestTile_89 : decode cX6_bestTile 89 = .ok (.iconst 0, 1) := by decide +kernel
theorem dX6_bestTile_90 : decode cX6_bestTile 90 = .ok (.iadd, 1) := by decide +kernel
theorem dX6_bestTile_91 : decode cX6_bestTile 91 = .ok (.istore 5, 2) := by decide +kernel
theorem dX6_bestTile_93 : decode cX6_bestTile 93 = .ok (.iinc 6 1, 3) := by decide +kernel
theorem dX6_bestTile_96 : decode cX6_bestTile 96 = .ok (.goto (-46), 3) := by decide +kernel
theorem dX6_bestTile_99 : decode cX6_bestTile 99 = .ok (.iload 5, 2) := by decide +kernel
theorem dX6_bestTile_101 : decode cX6_bestTile 101 = .ok (.iload_n 3, 1) := by decide +kernel
theorem dX6_bestTile_102 : decode cX6_bestTile 102 = .ok (.if_icmp .gt 6, 3) := by decide +kernel
theorem dX6_bestTile_105 : decode cX6_bestTile 105 = .ok (.goto 9, 3) := by decide +kernel
theorem dX6_bestTile_108 : decode cX6_bestTile 108 = .ok (.iload 5, 2) := by decide +kernel
theorem dX6_bestTile_110 : decode cX6_bestTile 110 = .ok (.istore_n 3, 1) := by decide +kernel
theorem dX6_bestTile_111 : decode cX6_bestTile 111 = .ok (.iload 4, 2) := by decide +kernel
theorem dX6_bestTile_113 : decode cX6_bestTile 113 = .ok (.istore_n 2, 1) := by decide +kernel
theorem dX6_bestTile_114 : decode cX6_bestTile 114 = .ok (.iinc 4 1, 3) := by decide +kernel
theorem dX6_bestTile_117 : decode cX6_bestTile 117 = .ok (.goto (-84), 3) := by decide +kernel
theorem dX6_bestTile_120 : decode cX6_bestTile 120 = .ok (.iload_n 2, 1) := by decide +kernel
theorem dX6_bestTile_121 : decode cX6_bestTile 121 = .ok (.ireturn, 1) := by decide +kernel
theorem dX6_roundsToFind_0 : decode cX6_roundsToFind 0 = .ok (.aload_n 0, 1) := by decide +kernel
theorem dX6_roundsToFind_1 : decode cX6_roundsToFind 1 = .ok (.iload_n 1, 1) := by decide +kernel
theorem dX6_roundsToFind_2 : decode cX6_roundsToFind 2 = .ok (.ifCond .ge 7, 3) := by decide +kernel
theorem dX6_roundsToFind_5 : decode cX6_roundsToFind 5 = .ok (.iconst 1, 1) := by decide +kernel
theorem dX6_roundsToFind_6 : decode cX6_roundsToFind 6 = .ok (.goto 4, 3) := by decide +kernel
theorem dX6_roundsToFind_9 : decode cX6_roundsToFind 9 = .ok (.iconst 0, 1) := by decide +kernel
theorem dX6_roundsToFind_10 : decode cX6_roundsToFind 10 = .ok (.putfield 49, 3) := by decide +kernel
theorem dX6_roundsToFind_13 : decode cX6_roundsToFind 13 = .ok (.aload_n 0, 1) := by decide +kernel
theorem dX6_roundsToFind_14 : decode cX6_roundsToFind 14 = .ok (.getfield 49, 3) := by decide +kernel
theorem dX6_roundsToFind_17 : decode cX6_roundsToFind 17 = .ok (.ifCond .le 5, 3) := by decide +kernel
theorem dX6_roundsToFind_20 : decode cX6_roundsToFind 20 = .ok (.iconst 0, 1) := by decide +kernel
theorem dX6_roundsToFind_21 : decode cX6_roundsToFind 21 = .ok (.ireturn, 1) := by decide +kernel
theorem dX6_roundsToFind_22 : decode cX6_roundsToFind 22 = .ok (.aload_n 0, 1) := by decide +kernel
theorem dX6_roundsToFind_23 : decode cX6_roundsToFind 23 = .ok (.getfield 16, 3) := by decide +kernel
theorem dX6_roundsToFind_26 : decode cX6_roundsToFind 26 = .ok (.iconst 0, 1) := by decide +kernel
theorem dX6_roundsToFind_27 : decode cX6_roundsToFind 27 = .ok (.aload_n 0, 1) := by decide +kernel
theorem dX6_roundsToFind_28 : decode cX6_roundsToFind 28 = .ok (.getfield 7, 3) := by decide +kernel
theorem dX6_roundsToFind_31 : decode cX6_roundsToFind 31 = .ok (.iconst 0, 1) := by decide +kernel
theorem dX6_roundsToFind_32 : decode cX6_roundsToFind 32 = .ok (.invokestatic 55, 3) := by decide +kernel
theorem dX6_roundsToFind_35 : decode cX6_roundsToFind 35 = .ok (.aload_n 0, 1) := by decide +kernel
theorem dX6_roundsToFind_36 : decode cX6_roundsToFind 36 = .ok (.iload_n 1, 1) := by decide +kernel
theorem dX6_roundsToFind_37 : decode cX6_roundsToFind 37 = .ok (.i2l, 1) := by decide +kernel
theorem dX6_roundsToFind_38 : decode cX6_roundsToFind 38 = .ok (.putfield 266, 3) := by decide +kernel
theorem dX6_roundsToFind_41 : decode cX6_roundsToFind 41 = .ok (.iconst 0, 1) := by decide +kernel
theorem dX6_roundsToFind_42 : decode cX6_roundsToFind 42 = .ok (.istore_n 2, 1) := by decide +kernel
theorem dX6_roundsToFind_43 : decode cX6_roundsToFind 43 = .ok (.iload_n 2, 1) := by decide +kernel
theorem dX6_roundsToFind_44 : decode cX6_roundsToFind 44 = .ok (.bipush 60, 2) := by decide +kernel
theorem dX6_roundsToFind_46 : decode cX6_roundsToFind 46 = .ok (.if_icmp .ge 30, 3) := by decide +kernel
theorem dX6_roundsToFind_49 : decode cX6_roundsToFind 49 = .ok (.aload_n 0, 1) := by decide +kernel
theorem dX6_roundsToFind_50 : decode cX6_roundsToFind 50 = .ok (.iconst 1, 1) := by decide +kernel
theorem dX6_roundsToFind_51 : decode cX6_roundsToFind 51 = .ok (.invokevirtual 241, 3) := by decide +kernel
theorem dX6_roundsToFind_54 : decode cX6_roundsToFind 54 = .ok (.aload_n 0, 1) := by decide +kernel
theorem dX6_roundsToFind_55 : decode cX6_roundsToFind 55 = .ok (.iconst 3, 1) := by decide +kernel
theorem dX6_roundsToFind_56 : decode cX6_roundsToFind 56 = .ok (.invokevirtual 241, 3) := by decide +kernel
theorem dX6_roundsToFind_59 : decode cX6_roundsToFind 59 = .ok (.if_icmp .le 17, 3) := by decide +kernel
theorem dX6_roundsToFind_62 : decode cX6_roundsToFind 62 = .ok (.aload_n 0, 1) := by decide +kernel
theorem dX6_roundsToFind_63 : decode cX6_roundsToFind 63 = .ok (.aload_n 0, 1) := by decide +kernel
theorem dX6_roundsToFind_64 : decode cX6_roundsToFind 64 = .ok (.invokevirtual 279, 3) := by decide +kernel
theorem dX6_roundsToFind_67 : decode cX6_roundsToFind 67 = .ok (.putfield 282, 3) := by decide +kernel
theorem dX6_roundsToFind_70 : decode cX6_roundsToFind 70 = .ok (.iinc 2 1, 3) := by decide +kernel
theorem dX6_roundsToFind_73 : decode cX6_roundsToFind 73 = .ok (.goto (-30), 3) := by decide +kernel
theorem dX6_roundsToFind_76 : decode cX6_roundsToFind 76 = .ok (.aload_n 0, 1) := by decide +kernel
theorem dX6_roundsToFind_77 : decode cX6_roundsToFind 77 = .ok (.iconst 1, 1) := by decide +kernel
theorem dX6_roundsToFind_78 : decode cX6_roundsToFind 78 = .ok (.invokevirtual 241, 3) := by decide +kernel
theorem dX6_roundsToFind_81 : decode cX6_roundsToFind 81 = .ok (.aload_n 0, 1) := by decide +kernel
theorem dX6_roundsToFind_82 : decode cX6_roundsToFind 82 = .ok (.iconst 3, 1) := by decide +kernel
theorem dX6_roundsToFind_83 : decode cX6_roundsToFind 83 = .ok (.invokevirtual 241, 3) := by decide +kernel
theorem dX6_roundsToFind_86 : decode cX6_roundsToFind 86 = .ok (.if_icmp .ne 7, 3) := by decide +kernel
theorem dX6_roundsToFind_89 : decode cX6_roundsToFind 89 = .ok (.iconst 1, 1) := by decide +kernel
theorem dX6_roundsToFind_90 : decode cX6_roundsToFind 90 = .ok (.goto 4, 3) := by decide +kernel
theorem dX6_roundsToFind_93 : decode cX6_roundsToFind 93 = .ok (.iconst 0, 1) := by decide +kernel
theorem dX6_roundsToFind_94 : decode cX6_roundsToFind 94 = .ok (.istore_n 3, 1) := by decide +kernel
theorem dX6_roundsToFind_95 : decode cX6_roundsToFind 95 = .ok (.aload_n 0, 1) := by decide +kernel
theorem dX6_roundsToFind_96 : decode cX6_roundsToFind 96 = .ok (.getfield 7, 3) := by decide +kernel
theorem dX6_roundsToFind_99 : decode cX6_roundsToFind 99 = .ok (.iconst 0, 1) := by decide +kernel
theorem dX6_roundsToFind_100 : decode cX6_roundsToFind 100 = .ok (.aload_n 0, 1) := by decide +kernel
theorem dX6_roundsToFind_101 : decode cX6_roundsToFind 101 = .ok (.getfield 16, 3) := by decide +kernel
theorem dX6_roundsToFind_104 : decode cX6_roundsToFind 104 = .ok (.iconst 0, 1) := by decide +kernel
theorem dX6_roundsToFind_105 : decode cX6_roundsToFind 105 = .ok (.invokestatic 55, 3) := by decide +kernel
theorem dX6_roundsToFind_108 : decode cX6_roundsToFind 108 = .ok (.iload_n 3, 1) := by decide +kernel
theorem dX6_roundsToFind_109 : decode cX6_roundsToFind 109 = .ok (.ifCond .eq 7, 3) := by decide +kernel
theorem dX6_roundsToFind_112 : decode cX6_roundsToFind 112 = .ok (.iload_n 2, 1) := by decide +kernel
theorem dX6_roundsToFind_113 : decode cX6_roundsToFind 113 = .ok (.goto 4, 3) := by decide +kernel
theorem dX6_roundsToFind_116 : decode cX6_roundsToFind 116 = .ok (.iconst (-1), 1) := by decide +kernel
theorem dX6_roundsToFind_117 : decode cX6_roundsToFind 117 = .ok (.ireturn, 1) := by decide +kernel
theorem dX6_leastTrusted_0 : decode cX6_leastTrusted 0 = .ok (.aload_n 0, 1) := by decide +kernel
theorem dX6_leastTrusted_1 : decode cX6_leastTrusted 1 = .ok (.iconst 0, 1) := by decide +kernel
theorem dX6_leastTrusted_2 : decode cX6_leastTrusted 2 = .ok (.putfield 49, 3) := by decide +kernel
theorem dX6_leastTrusted_5 : decode cX6_leastTrusted 5 = .ok (.iconst 0, 1) := by decide +kernel
theorem dX6_leastTrusted_6 : decode cX6_leastTrusted 6 = .ok (.istore_n 1, 1) := by decide +kernel
theorem dX6_leastTrusted_7 : decode cX6_leastTrusted 7 = .ok (.iconst 1, 1) := by decide +kernel
theorem dX6_leastTrusted_8 : decode cX6_leastTrusted 8 = .ok (.istore_n 2, 1) := by decide +kernel
theorem dX6_leastTrusted_9 : decode cX6_leastTrusted 9 = .ok (.iload_n 2, 1) := by decide +kernel
theorem dX6_leastTrusted_10 : decode cX6_leastTrusted 10 = .ok (.aload_n 0, 1) := by decide +kernel
theorem dX6_leastTrusted_11 : decode cX6_leastTrusted 11 = .ok (.invokevirtual 67, 3) := by decide +kernel
theorem dX6_leastTrusted_14 : decode cX6_leastTrusted 14 = .ok (.if_icmp .ge 24, 3) := by decide +kernel
theorem dX6_leastTrusted_17 : decode cX6_leastTrusted 17 = .ok (.aload_n 0, 1) := by decide +kernel
theorem dX6_leastTrusted_18 : decode cX6_leastTrusted 18 = .ok (.iload_n 2, 1) := by decide +kernel
theorem dX6_leastTrusted_19 : decode cX6_leastTrusted 19 = .ok (.invokevirtual 254, 3) := by decide +kernel
theorem dX6_leastTrusted_22 : decode cX6_leastTrusted 22 = .ok (.aload_n 0, 1) := by decide +kernel
theorem dX6_leastTrusted_23 : decode cX6_leastTrusted 23 = .ok (.iload_n 1, 1) := by decide +kernel
theorem dX6_leastTrusted_24 : decode cX6_leastTrusted 24 = .ok (.invokevirtual 254, 3) := by decide +kernel
theorem dX6_leastTrusted_27 : decode cX6_leastTrusted 27 = .ok (.if_icmp .ge 5, 3) := by decide +kernel
theorem dX6_leastTrusted_30 : decode cX6_leastTrusted 30 = .ok (.iload_n 2, 1) := by decide +kernel
theorem dX6_leastTrusted_31 : decode cX6_leastTrusted 31 = .ok (.istore_n 1, 1) := by decide +kernel
theorem dX6_leastTrusted_32 : decode cX6_leastTrusted 32 = .ok (.iinc 2 1, 3) := by decide +kernel
theorem dX6_leastTrusted_35 : decode cX6_leastTrusted 35 = .ok (.goto (-26), 3) := by decide +kernel
theorem dX6_leastTrusted_38 : decode cX6_leastTrusted 38 = .ok (.iload_n 1, 1) := by decide +kernel
theorem dX6_leastTrusted_39 : decode cX6_leastTrusted 39 = .ok (.ireturn, 1) := by decide +kernel
theorem dX6_sourcesOf_0 : decode cX6_sourcesOf 0 = .ok (.aload_n 0, 1) := by decide +kernel
theorem dX6_sourcesOf_1 : decode cX6_sourcesOf 1 = .ok (.iload_n 2, 1) := by decide +kernel
theorem dX6_sourcesOf_2 : decode cX6_sourcesOf 2 = .ok (.iconst 3, 1) := by decide +kernel
theorem dX6_sourcesOf_3 : decode cX6_sourcesOf 3 = .ok (.invokevirtual 206, 3) := by decide +kernel
theorem dX6_sourcesOf_6 : decode cX6_sourcesOf 6 = .ok (.aload_n 0, 1) := by decide +kernel
theorem dX6_sourcesOf_7 : decode cX6_sourcesOf 7 = .ok (.iload_n 1, 1) := by decide +kernel
theorem dX6_sourcesOf_8 : decode cX6_sourcesOf 8 = .ok (.iconst 1, 1) := by decide +kernel
theorem dX6_sourcesOf_9 : decode cX6_sourcesOf 9 = .ok (.invokevirtual 226, 3) := by decide +kernel
theorem dX6_sourcesOf_12 : decode cX6_sourcesOf 12 = .ok (.iand, 1) := by decide +kernel
theorem dX6_sourcesOf_13 : decode cX6_sourcesOf 13 = .ok (.ireturn, 1) := by decide +kernel
theorem dX6_gets_0 : decode cX6_gets 0 = .ok (.aload_n 0, 1) := by decide +kernel
theorem dX6_gets_1 : decode cX6_gets 1 = .ok (.iload_n 1, 1) := by decide +kernel
theorem dX6_gets_2 : decode cX6_gets 2 = .ok (.iload_n 2, 1) := by decide +kernel
theorem dX6_gets_3 : decode cX6_gets 3 = .ok (.invokevirtual 285, 3) := by decide +kernel
theorem dX6_gets_6 : decode cX6_gets 6 = .ok (.istore_n 3, 1) := by decide +kernel
theorem dX6_gets_7 : decode cX6_gets 7 = .ok (.ldc_w 263, 3) := by decide +kernel
theorem dX6_gets_10 : decode cX6_gets 10 = .ok (.istore 4, 2) := by decide +kernel
theorem dX6_gets_12 : decode cX6_gets 12 = .ok (.iconst 0, 1) := by decide +kernel
theorem dX6_gets_13 : decode cX6_gets 13 = .ok (.istore 5, 2) := by decide +kernel
theorem dX6_gets_15 : decode cX6_gets 15 = .ok (.iload 5, 2) := by decide +kernel
theorem dX6_gets_17 : decode cX6_gets 17 = .ok (.aload_n 0, 1) := by decide +kernel
theorem dX6_gets_18 : decode cX6_gets 18 = .ok (.invokevirtual 67, 3) := by decide +kernel
theorem dX6_gets_21 : decode cX6_gets 21 = .ok (.if_icmp .ge 31, 3) := by decide +kernel
theorem dX6_gets_24 : decode cX6_gets 24 = .ok (.iload_n 3, 1) := by decide +kernel
theorem dX6_gets_25 : decode cX6_gets 25 = .ok (.iload 5, 2) := by decide +kernel
theorem dX6_gets_27 : decode cX6_gets 27 = .ok (.ishr, 1) := by decide +kernel
theorem dX6_gets_28 : decode cX6_gets 28 = .ok (.iconst 1, 1) := by decide +kernel
theorem dX6_gets_29 : decode cX6_gets 29 = .ok (.iand, 1) := by decide +kernel
theorem dX6_gets_30 : decode cX6_gets 30 = .ok (.iconst 1, 1) := by decide +kernel
theorem dX6_gets_31 : decode cX6_gets 31 = .ok (.if_icmp .ne 15, 3) := by decide +kernel
theorem dX6_gets_34 : decode cX6_gets 34 = .ok (.iload 4, 2) := by decide +kernel
theorem dX6_gets_36 : decode cX6_gets 36 = .ok (.aload_n 0, 1) := by decide +kernel
theorem dX6_gets_37 : decode cX6_gets 37 = .ok (.iload_n 1, 1) := by decide +kernel
theorem dX6_gets_38 : decode cX6_gets 38 = .ok (.iload 5, 2) := by decide +kernel
theorem dX6_gets_40 : decode cX6_gets 40 = .ok (.invokevirtual 182, 3) := by decide +kernel
theorem dX6_gets_43 : decode cX6_gets 43 = .ok (.iand, 1) := by decide +kernel
theorem dX6_gets_44 : decode cX6_gets 44 = .ok (.istore 4, 2) := by decide +kernel
theorem dX6_gets_46 : decode cX6_gets 46 = .ok (.iinc 5 1, 3) := by decide +kernel
theorem dX6_gets_49 : decode cX6_gets 49 = .ok (.goto (-34), 3) := by decide +kernel
theorem dX6_gets_52 : decode cX6_gets 52 = .ok (.ldc 188, 2) := by decide +kernel
theorem dX6_gets_54 : decode cX6_gets 54 = .ok (.iload 4, 2) := by decide +kernel
theorem dX6_gets_56 : decode cX6_gets 56 = .ok (.ldc_w 263, 3) := by decide +kernel
theorem dX6_gets_59 : decode cX6_gets 59 = .ok (.iand, 1) := by decide +kernel
theorem dX6_gets_60 : decode cX6_gets 60 = .ok (.ior, 1) := by decide +kernel
theorem dX6_gets_61 : decode cX6_gets 61 = .ok (.ireturn, 1) := by decide +kernel
theorem dX6_canRepair_0 : decode cX6_canRepair 0 = .ok (.aload_n 0, 1) := by decide +kernel
theorem dX6_canRepair_1 : decode cX6_canRepair 1 = .ok (.iload_n 1, 1) := by decide +kernel
theorem dX6_canRepair_2 : decode cX6_canRepair 2 = .ok (.iload_n 2, 1) := by decide +kernel
theorem dX6_canRepair_3 : decode cX6_canRepair 3 = .ok (.invokevirtual 182, 3) := by decide +kernel
theorem dX6_canRepair_6 : decode cX6_canRepair 6 = .ok (.invokestatic 214, 3) := by decide +kernel
theorem dX6_canRepair_9 : decode cX6_canRepair 9 = .ok (.ifCond .eq 16, 3) := by decide +kernel
theorem dX6_canRepair_12 : decode cX6_canRepair 12 = .ok (.aload_n 0, 1) := by decide +kernel
theorem dX6_canRepair_13 : decode cX6_canRepair 13 = .ok (.iload_n 1, 1) := by decide +kernel
theorem dX6_canRepair_14 : decode cX6_canRepair 14 = .ok (.iload_n 2, 1) := by decide +kernel
theorem dX6_canRepair_15 : decode cX6_canRepair 15 = .ok (.invokevirtual 285, 3) := by decide +kernel
theorem dX6_canRepair_18 : decode cX6_canRepair 18 = .ok (.ifCond .eq 7, 3) := by decide +kernel
theorem dX6_canRepair_21 : decode cX6_canRepair 21 = .ok (.iconst 1, 1) := by decide +kernel
theorem dX6_canRepair_22 : decode cX6_canRepair 22 = .ok (.goto 4, 3) := by decide +kernel
theorem dX6_canRepair_25 : decode cX6_canRepair 25 = .ok (.iconst 0, 1) := by decide +kernel
theorem dX6_canRepair_26 : decode cX6_canRepair 26 = .ok (.ireturn, 1) := by decide +kernel
theorem dX6_waves1_0 : decode cX6_waves1 0 = .ok (.iconst 0, 1) := by decide +kernel
theorem dX6_waves1_1 : decode cX6_waves1 1 = .ok (.istore_n 1, 1) := by decide +kernel
theorem dX6_waves1_2 : decode cX6_waves1 2 = .ok (.iconst 0, 1) := by decide +kernel
theorem dX6_waves1_3 : decode cX6_waves1 3 = .ok (.istore_n 2, 1) := by decide +kernel
theorem dX6_waves1_4 : decode cX6_waves1 4 = .ok (.iload_n 2, 1) := by decide +kernel
theorem dX6_waves1_5 : decode cX6_waves1 5 = .ok (.aload_n 0, 1) := by decide +kernel
theorem dX6_waves1_6 : decode cX6_waves1 6 = .ok (.invokevirtual 169, 3) := by decide +kernel
theorem dX6_waves1_9 : decode cX6_waves1 9 = .ok (.if_icmp .ge 55, 3) := by decide +kernel
theorem dX6_waves1_12 : decode cX6_waves1 12 = .ok (.iconst 0, 1) := by decide +kernel
theorem dX6_waves1_13 : decode cX6_waves1 13 = .ok (.istore_n 3, 1) := by decide +kernel
theorem dX6_waves1_14 : decode cX6_waves1 14 = .ok (.iload_n 3, 1) := by decide +kernel
theorem dX6_waves1_15 : decode cX6_waves1 15 = .ok (.aload_n 0, 1) := by decide +kernel
theorem dX6_waves1_16 : decode cX6_waves1 16 = .ok (.invokevirtual 67, 3) := by decide +kernel
theorem dX6_waves1_19 : decode cX6_waves1 19 = .ok (.if_icmp .ge 39, 3) := by decide +kernel
theorem dX6_waves1_22 : decode cX6_waves1 22 = .ok (.aload_n 0, 1) := by decide +kernel
theorem dX6_waves1_23 : decode cX6_waves1 23 = .ok (.getfield 36, 3) := by decide +kernel
theorem dX6_waves1_26 : decode cX6_waves1 26 = .ok (.bipush 10, 2) := by decide +kernel
theorem dX6_waves1_28 : decode cX6_waves1 28 = .ok (.iload_n 2, 1) := by decide +kernel
theorem dX6_waves1_29 : decode cX6_waves1 29 = .ok (.imul, 1) := by decide +kernel
theorem dX6_waves1_30 : decode cX6_waves1 30 = .ok (.iload_n 3, 1) := by decide +kernel
theorem dX6_waves1_31 : decode cX6_waves1 31 = .ok (.iadd, 1) := by decide +kernel
theorem dX6_waves1_32 : decode cX6_waves1 32 = .ok (.aload_n 0, 1) := by decide +kernel
theorem dX6_waves1_33 : decode cX6_waves1 33 = .ok (.iload_n 2, 1) := by decide +kernel
theorem dX6_waves1_34 : decode cX6_waves1 34 = .ok (.iload_n 3, 1) := by decide +kernel
theorem dX6_waves1_35 : decode cX6_waves1 35 = .ok (.invokevirtual 288, 3) := by decide +kernel
theorem dX6_waves1_38 : decode cX6_waves1 38 = .ok (.ifCond .eq 12, 3) := by decide +kernel
theorem dX6_waves1_41 : decode cX6_waves1 41 = .ok (.aload_n 0, 1) := by decide +kernel
theorem dX6_waves1_42 : decode cX6_waves1 42 = .ok (.iload_n 2, 1) := by decide +kernel
theorem dX6_waves1_43 : decode cX6_waves1 43 = .ok (.iload_n 3, 1) := by decide +kernel
theorem dX6_waves1_44 : decode cX6_waves1 44 = .ok (.invokevirtual 291, 3) := by decide +kernel
theorem dX6_waves1_47 : decode cX6_waves1 47 = .ok (.goto 4, 3) := by decide +kernel
theorem dX6_waves1_50 : decode cX6_waves1 50 = .ok (.iconst 0, 1) := by decide +kernel
theorem dX6_waves1_51 : decode cX6_waves1 51 = .ok (.iastore, 1) := by decide +kernel
theorem dX6_waves1_52 : decode cX6_waves1 52 = .ok (.iinc 3 1, 3) := by decide +kernel
theorem dX6_waves1_55 : decode cX6_waves1 55 = .ok (.goto (-41), 3) := by decide +kernel
theorem dX6_waves1_58 : decode cX6_waves1 58 = .ok (.iinc 2 1, 3) := by decide +kernel
theorem dX6_waves1_61 : decode cX6_waves1 61 = .ok (.goto (-57), 3) := by decide +kernel
theorem dX6_waves1_64 : decode cX6_waves1 64 = .ok (.iconst 0, 1) := by decide +kernel
theorem dX6_waves1_65 : decode cX6_waves1 65 = .ok (.istore_n 2, 1) := by decide +kernel
theorem dX6_waves1_66 : decode cX6_waves1 66 = .ok (.iload_n 2, 1) := by decide +kernel
theorem dX6_waves1_67 : decode cX6_waves1 67 = .ok (.aload_n 0, 1) := by decide +kernel
theorem dX6_waves1_68 : decode cX6_waves1 68 = .ok (.invokevirtual 169, 3) := by decide +kernel
theorem dX6_waves1_71 : decode cX6_waves1 71 = .ok (.if_icmp .ge 62, 3) := by decide +kernel
theorem dX6_waves1_74 : decode cX6_waves1 74 = .ok (.iconst 0, 1) := by decide +kernel
theorem dX6_waves1_75 : decode cX6_waves1 75 = .ok (.istore_n 3, 1) := by decide +kernel
theorem dX6_waves1_76 : decode cX6_waves1 76 = .ok (.iload_n 3, 1) := by decide +kernel
theorem dX6_waves1_77 : decode cX6_waves1 77 = .ok (.aload_n 0, 1) := by decide +kernel
theorem dX6_waves1_78 : decode cX6_waves1 78 = .ok (.invokevirtual 67, 3) := by decide +kernel
theorem dX6_waves1_81 : decode cX6_waves1 81 = .ok (.if_icmp .ge 46, 3) := by decide +kernel
theorem dX6_waves1_84 : decode cX6_waves1 84 = .ok (.aload_n 0, 1) := by decide +kernel
theorem dX6_waves1_85 : decode cX6_waves1 85 = .ok (.getfield 36, 3) := by decide +kernel
theorem dX6_waves1_88 : decode cX6_waves1 88 = .ok (.bipush 10, 2) := by decide +kernel
theorem dX6_waves1_90 : decode cX6_waves1 90 = .ok (.iload_n 2, 1) := by decide +kernel
theorem dX6_waves1_91 : decode cX6_waves1 91 = .ok (.imul, 1) := by decide +kernel
theorem dX6_waves1_92 : decode cX6_waves1 92 = .ok (.iload_n 3, 1) := by decide +kernel
theorem dX6_waves1_93 : decode cX6_waves1 93 = .ok (.iadd, 1) := by decide +kernel
theorem dX6_waves1_94 : decode cX6_waves1 94 = .ok (.iaload, 1) := by decide +kernel
theorem dX6_waves1_95 : decode cX6_waves1 95 = .ok (.ifCond .ne 6, 3) := by decide +kernel
theorem dX6_waves1_98 : decode cX6_waves1 98 = .ok (.goto 23, 3) := by decide +kernel
theorem dX6_waves1_101 : decode cX6_waves1 101 = .ok (.aload_n 0, 1) := by decide +kernel
theorem dX6_waves1_102 : decode cX6_waves1 102 = .ok (.iload_n 2, 1) := by decide +kernel
theorem dX6_waves1_103 : decode cX6_waves1 103 = .ok (.iload_n 3, 1) := by decide +kernel
theorem dX6_waves1_104 : decode cX6_waves1 104 = .ok (.aload_n 0, 1) := by decide +kernel
theorem dX6_waves1_105 : decode cX6_waves1 105 = .ok (.getfield 36, 3) := by decide +kernel
theorem dX6_waves1_108 : decode cX6_waves1 108 = .ok (.bipush 10, 2) := by decide +kernel
theorem dX6_waves1_110 : decode cX6_waves1 110 = .ok (.iload_n 2, 1) := by decide +kernel
theorem dX6_waves1_111 : decode cX6_waves1 111 = .ok (.imul, 1) := by decide +kernel
theorem dX6_waves1_112 : decode cX6_waves1 112 = .ok (.iload_n 3, 1) := by decide +kernel
theorem dX6_waves1_113 : decode cX6_waves1 113 = .ok (.iadd, 1) := by decide +kernel
theorem dX6_waves1_114 : decode cX6_waves1 114 = .ok (.iaload, 1) := by decide +kernel
theorem dX6_waves1_115 : decode cX6_waves1 115 = .ok (.invokevirtual 172, 3) := by decide +kernel
theorem dX6_waves1_118 : decode cX6_waves1 118 = .ok (.iinc 1 1, 3) := by decide +kernel
theorem dX6_waves1_121 : decode cX6_waves1 121 = .ok (.iinc 3 1, 3) := by decide +kernel
theorem dX6_waves1_124 : decode cX6_waves1 124 = .ok (.goto (-48), 3) := by decide +kernel
theorem dX6_waves1_127 : decode cX6_waves1 127 = .ok (.iinc 2 1, 3) := by decide +kernel
theorem dX6_waves1_130 : decode cX6_waves1 130 = .ok (.goto (-64), 3) := by decide +kernel
theorem dX6_waves1_133 : decode cX6_waves1 133 = .ok (.aload_n 0, 1) := by decide +kernel
theorem dX6_waves1_134 : decode cX6_waves1 134 = .ok (.getfield 7, 3) := by decide +kernel
theorem dX6_waves1_137 : decode cX6_waves1 137 = .ok (.iconst 3, 1) := by decide +kernel
theorem dX6_waves1_138 : decode cX6_waves1 138 = .ok (.dup2, 1) := by decide +kernel
theorem dX6_waves1_139 : decode cX6_waves1 139 = .ok (.iaload, 1) := by decide +kernel
theorem dX6_waves1_140 : decode cX6_waves1 140 = .ok (.iload_n 1, 1) := by decide +kernel
theorem dX6_waves1_141 : decode cX6_waves1 141 = .ok (.iadd, 1) := by decide +kernel
theorem dX6_waves1_142 : decode cX6_waves1 142 = .ok (.iastore, 1) := by decide +kernel
theorem dX6_waves1_143 : decode cX6_waves1 143 = .ok (.iload_n 1, 1) := by decide +kernel
theorem dX6_waves1_144 : decode cX6_waves1 144 = .ok (.ireturn, 1) := by decide +kernel
theorem dX6_sources_0 : decode cX6_sources 0 = .ok (.aload_n 0, 1) := by decide +kernel
theorem dX6_sources_1 : decode cX6_sources 1 = .ok (.iload_n 1, 1) := by decide +kernel
theorem dX6_sources_2 : decode cX6_sources 2 = .ok (.iload_n 2, 1) := by decide +kernel
theorem dX6_sources_3 : decode cX6_sources 3 = .ok (.invokevirtual 260, 3) := by decide +kernel
theorem dX6_sources_6 : decode cX6_sources 6 = .ok (.ifCond .eq 12, 3) := by decide +kernel
theorem dX6_sources_9 : decode cX6_sources 9 = .ok (.aload_n 0, 1) := by decide +kernel
theorem dX6_sources_10 : decode cX6_sources 10 = .ok (.iload_n 1, 1) := by decide +kernel
theorem dX6_sources_11 : decode cX6_sources 11 = .ok (.iload_n 2, 1) := by decide +kernel
theorem dX6_sources_12 : decode cX6_sources 12 = .ok (.invokevirtual 285, 3) := by decide +kernel
theorem dX6_sources_15 : decode cX6_sources 15 = .ok (.goto 4, 3) := by decide +kernel
theorem dX6_sources_18 : decode cX6_sources 18 = .ok (.iconst 0, 1) := by decide +kernel
theorem dX6_sources_19 : decode cX6_sources 19 = .ok (.ireturn, 1) := by decide +kernel
theorem dX6_wouldGet_0 : decode cX6_wouldGet 0 = .ok (.aload_n 0, 1) := by decide +kernel
theorem dX6_wouldGet_1 : decode cX6_wouldGet 1 = .ok (.iload_n 1, 1) := by decide +kernel
theorem dX6_wouldGet_2 : decode cX6_wouldGet 2 = .ok (.iload_n 2, 1) := by decide +kernel
theorem dX6_wouldGet_3 : decode cX6_wouldGet 3 = .ok (.invokevirtual 260, 3) := by decide +kernel
theorem dX6_wouldGet_6 : decode cX6_wouldGet 6 = .ok (.ifCond .ne 5, 3) := by decide +kernel
theorem dX6_wouldGet_9 : decode cX6_wouldGet 9 = .ok (.iconst 0, 1) := by decide +kernel
theorem dX6_wouldGet_10 : decode cX6_wouldGet 10 = .ok (.ireturn, 1) := by decide +kernel
theorem dX6_wouldGet_11 : decode cX6_wouldGet 11 = .ok (.aload_n 0, 1) := by decide +kernel
theorem dX6_wouldGet_12 : decode cX6_wouldGet 12 = .ok (.iload_n 1, 1) := by decide +kernel
theorem dX6_wouldGet_13 : decode cX6_wouldGet 13 = .ok (.iload_n 2, 1) := by decide +kernel
theorem dX6_wouldGet_14 : decode cX6_wouldGet 14 = .ok (.invokevirtual 285, 3) := by decide +kernel
theorem dX6_wouldGet_17 : decode cX6_wouldGet 17 = .ok (.ifCond .ne 7, 3) := by decide +kernel
theorem dX6_wouldGet_20 : decode cX6_wouldGet 20 = .ok (.iconst (-1), 1) := by decide +kernel
theorem dX6_wouldGet_21 : decode cX6_wouldGet 21 = .ok (.goto 13, 3) := by decide +kernel
theorem dX6_wouldGet_24 : decode cX6_wouldGet 24 = .ok (.aload_n 0, 1) := by decide +kernel
theorem dX6_wouldGet_25 : decode cX6_wouldGet 25 = .ok (.iload_n 1, 1) := by decide +kernel
theorem dX6_wouldGet_26 : decode cX6_wouldGet 26 = .ok (.iload_n 2, 1) := by decide +kernel
theorem dX6_wouldGet_27 : decode cX6_wouldGet 27 = .ok (.invokevirtual 291, 3) := by decide +kernel
theorem dX6_wouldGet_30 : decode cX6_wouldGet 30 = .ok (.ldc_w 263, 3) := by decide +kernel
theorem dX6_wouldGet_33 : decode cX6_wouldGet 33 = .ok (.iand, 1) := by decide +kernel
theorem dX6_wouldGet_34 : decode cX6_wouldGet 34 = .ok (.ireturn, 1) := by decide +kernel
theorem dX6_triesWaves_0 : decode cX6_triesWaves 0 = .ok (.aload_n 0, 1) := by decide +kernel
theorem dX6_triesWaves_1 : decode cX6_triesWaves 1 = .ok (.iconst 0, 1) := by decide +kernel
theorem dX6_triesWaves_2 : decode cX6_triesWaves 2 = .ok (.putfield 49, 3) := by decide +kernel
theorem dX6_triesWaves_5 : decode cX6_triesWaves 5 = .ok (.aload_n 0, 1) := by decide +kernel
theorem dX6_triesWaves_6 : decode cX6_triesWaves 6 = .ok (.getfield 16, 3) := by decide +kernel
theorem dX6_triesWaves_9 : decode cX6_triesWaves 9 = .ok (.iconst 0, 1) := by decide +kernel
theorem dX6_triesWaves_10 : decode cX6_triesWaves 10 = .ok (.aload_n 0, 1) := by decide +kernel
theorem dX6_triesWaves_11 : decode cX6_triesWaves 11 = .ok (.getfield 7, 3) := by decide +kernel
theorem dX6_triesWaves_14 : decode cX6_triesWaves 14 = .ok (.iconst 0, 1) := by decide +kernel
theorem dX6_triesWaves_15 : decode cX6_triesWaves 15 = .ok (.invokestatic 55, 3) := by decide +kernel
theorem dX6_triesWaves_18 : decode cX6_triesWaves 18 = .ok (.aload_n 0, 1) := by decide +kernel
theorem dX6_triesWaves_19 : decode cX6_triesWaves 19 = .ok (.iconst 0, 1) := by decide +kernel
theorem dX6_triesWaves_20 : decode cX6_triesWaves 20 = .ok (.putfield 294, 3) := by decide +kernel
theorem dX6_triesWaves_23 : decode cX6_triesWaves 23 = .ok (.aload_n 0, 1) := by decide +kernel
theorem dX6_triesWaves_24 : decode cX6_triesWaves 24 = .ok (.invokevirtual 297, 3) := by decide +kernel
theorem dX6_triesWaves_27 : decode cX6_triesWaves 27 = .ok (.ifCond .le 16, 3) := by decide +kernel
theorem dX6_triesWaves_30 : decode cX6_triesWaves 30 = .ok (.aload_n 0, 1) := by decide +kernel
theorem dX6_triesWaves_31 : decode cX6_triesWaves 31 = .ok (.dup, 1) := by decide +kernel
theorem dX6_triesWaves_32 : decode cX6_triesWaves 32 = .ok (.getfield 294, 3) := by decide +kernel
theorem dX6_triesWaves_35 : decode cX6_triesWaves 35 = .ok (.iconst 1, 1) := by decide +kernel
theorem dX6_triesWaves_36 : decode cX6_triesWaves 36 = .ok (.iadd, 1) := by decide +kernel
theorem dX6_triesWaves_37 : decode cX6_triesWaves 37 = .ok (.putfield 294, 3) := by decide +kernel
theorem dX6_triesWaves_40 : decode cX6_triesWaves 40 = .ok (.goto (-17), 3) := by decide +kernel
theorem dX6_triesWaves_43 : decode cX6_triesWaves 43 = .ok (.aload_n 0, 1) := by decide +kernel
theorem dX6_triesWaves_44 : decode cX6_triesWaves 44 = .ok (.aload_n 0, 1) := by decide +kernel
theorem dX6_triesWaves_45 : decode cX6_triesWaves 45 = .ok (.iconst 2, 1) := by decide +kernel
theorem dX6_triesWaves_46 : decode cX6_triesWaves 46 = .ok (.invokevirtual 241, 3) := by decide +kernel
theorem dX6_triesWaves_49 : decode cX6_triesWaves 49 = .ok (.putfield 300, 3) := by decide +kernel
theorem dX6_triesWaves_52 : decode cX6_triesWaves 52 = .ok (.aload_n 0, 1) := by decide +kernel
theorem dX6_triesWaves_53 : decode cX6_triesWaves 53 = .ok (.getfield 7, 3) := by decide +kernel
theorem dX6_triesWaves_56 : decode cX6_triesWaves 56 = .ok (.iconst 0, 1) := by decide +kernel
theorem dX6_triesWaves_57 : decode cX6_triesWaves 57 = .ok (.aload_n 0, 1) := by decide +kernel
theorem dX6_triesWaves_58 : decode cX6_triesWaves 58 = .ok (.getfield 16, 3) := by decide +kernel
theorem dX6_triesWaves_61 : decode cX6_triesWaves 61 = .ok (.iconst 0, 1) := by decide +kernel
theorem dX6_triesWaves_62 : decode cX6_triesWaves 62 = .ok (.invokestatic 55, 3) := by decide +kernel
theorem dX6_triesWaves_65 : decode cX6_triesWaves 65 = .ok (.return_, 1) := by decide +kernel
theorem dX6_waves_0 : decode cX6_waves 0 = .ok (.aload_n 0, 1) := by decide +kernel
theorem dX6_waves_1 : decode cX6_waves 1 = .ok (.invokevirtual 303, 3) := by decide +kernel
theorem dX6_waves_4 : decode cX6_waves 4 = .ok (.aload_n 0, 1) := by decide +kernel
theorem dX6_waves_5 : decode cX6_waves 5 = .ok (.getfield 294, 3) := by decide +kernel
theorem dX6_waves_8 : decode cX6_waves 8 = .ok (.ireturn, 1) := by decide +kernel
theorem dX6_lost_0 : decode cX6_lost 0 = .ok (.aload_n 0, 1) := by decide +kernel
theorem dX6_lost_1 : decode cX6_lost 1 = .ok (.invokevirtual 303, 3) := by decide +kernel
theorem dX6_lost_4 : decode cX6_lost 4 = .ok (.aload_n 0, 1) := by decide +kernel
theorem dX6_lost_5 : decode cX6_lost 5 = .ok (.getfield 300, 3) := by decide +kernel
theorem dX6_lost_8 : decode cX6_lost 8 = .ok (.ireturn, 1) := by decide +kernel
theorem dX6_dependsOn_0 : decode cX6_dependsOn 0 = .ok (.aload_n 0, 1) := by decide +kernel
theorem dX6_dependsOn_1 : decode cX6_dependsOn 1 = .ok (.iload_n 1, 1) := by decide +kernel
theorem dX6_dependsOn_2 : decode cX6_dependsOn 2 = .ok (.iconst 1, 1) := by decide +kernel
theorem dX6_dependsOn_3 : decode cX6_dependsOn 3 = .ok (.invokevirtual 226, 3) := by decide +kernel
theorem dX6_dependsOn_6 : decode cX6_dependsOn 6 = .ok (.invokestatic 229, 3) := by decide +kernel
theorem dX6_dependsOn_9 : decode cX6_dependsOn 9 = .ok (.aload_n 0, 1) := by decide +kernel
theorem dX6_dependsOn_10 : decode cX6_dependsOn 10 = .ok (.iload_n 1, 1) := by decide +kernel
theorem dX6_dependsOn_11 : decode cX6_dependsOn 11 = .ok (.invokevirtual 232, 3) := by decide +kernel
theorem dX6_dependsOn_14 : decode cX6_dependsOn 14 = .ok (.if_icmp .ne 12, 3) := by decide +kernel
theorem dX6_dependsOn_17 : decode cX6_dependsOn 17 = .ok (.aload_n 0, 1) := by decide +kernel
theorem dX6_dependsOn_18 : decode cX6_dependsOn 18 = .ok (.iload_n 1, 1) := by decide +kernel
theorem dX6_dependsOn_19 : decode cX6_dependsOn 19 = .ok (.iconst 1, 1) := by decide +kernel
theorem dX6_dependsOn_20 : decode cX6_dependsOn 20 = .ok (.invokevirtual 226, 3) := by decide +kernel
theorem dX6_dependsOn_23 : decode cX6_dependsOn 23 = .ok (.goto 4, 3) := by decide +kernel
theorem dX6_dependsOn_26 : decode cX6_dependsOn 26 = .ok (.iconst 0, 1) := by decide +kernel
theorem dX6_dependsOn_27 : decode cX6_dependsOn 27 = .ok (.ireturn, 1) := by decide +kernel
theorem dX6_depends_0 : decode cX6_depends 0 = .ok (.aload_n 0, 1) := by decide +kernel
theorem dX6_depends_1 : decode cX6_depends 1 = .ok (.aload_n 0, 1) := by decide +kernel
theorem dX6_depends_2 : decode cX6_depends 2 = .ok (.iload_n 1, 1) := by decide +kernel
theorem dX6_depends_3 : decode cX6_depends 3 = .ok (.invokevirtual 257, 3) := by decide +kernel
theorem dX6_depends_6 : decode cX6_depends 6 = .ok (.ifCond .eq 7, 3) := by decide +kernel
theorem dX6_depends_9 : decode cX6_depends 9 = .ok (.iconst 0, 1) := by decide +kernel
theorem dX6_depends_10 : decode cX6_depends 10 = .ok (.goto 4, 3) := by decide +kernel
theorem dX6_depends_13 : decode cX6_depends 13 = .ok (.iconst 1, 1) := by decide +kernel
theorem dX6_depends_14 : decode cX6_depends 14 = .ok (.putfield 49, 3) := by decide +kernel
theorem dX6_depends_17 : decode cX6_depends 17 = .ok (.aload_n 0, 1) := by decide +kernel
theorem dX6_depends_18 : decode cX6_depends 18 = .ok (.getfield 49, 3) := by decide +kernel
theorem dX6_depends_21 : decode cX6_depends 21 = .ok (.ifCond .le 7, 3) := by decide +kernel
theorem dX6_depends_24 : decode cX6_depends 24 = .ok (.iconst 0, 1) := by decide +kernel
theorem dX6_depends_25 : decode cX6_depends 25 = .ok (.goto 8, 3) := by decide +kernel
theorem dX6_depends_28 : decode cX6_depends 28 = .ok (.aload_n 0, 1) := by decide +kernel
theorem dX6_depends_29 : decode cX6_depends 29 = .ok (.iload_n 1, 1) := by decide +kernel
theorem dX6_depends_30 : decode cX6_depends 30 = .ok (.invokevirtual 306, 3) := by decide +kernel
theorem dX6_depends_33 : decode cX6_depends 33 = .ok (.ireturn, 1) := by decide +kernel
theorem dX6_mostNeeded_0 : decode cX6_mostNeeded 0 = .ok (.aload_n 0, 1) := by decide +kernel
theorem dX6_mostNeeded_1 : decode cX6_mostNeeded 1 = .ok (.iconst 0, 1) := by decide +kernel
theorem dX6_mostNeeded_2 : decode cX6_mostNeeded 2 = .ok (.putfield 49, 3) := by decide +kernel
theorem dX6_mostNeeded_5 : decode cX6_mostNeeded 5 = .ok (.iconst (-1), 1) := by decide +kernel
theorem dX6_mostNeeded_6 : decode cX6_mostNeeded 6 = .ok (.istore_n 1, 1) := by decide +kernel
theorem dX6_mostNeeded_7 : decode cX6_mostNeeded 7 = .ok (.iconst 0, 1) := by decide +kernel
theorem dX6_mostNeeded_8 : decode cX6_mostNeeded 8 = .ok (.istore_n 2, 1) := by decide +kernel
theorem dX6_mostNeeded_9 : decode cX6_mostNeeded 9 = .ok (.iconst 0, 1) := by decide +kernel
theorem dX6_mostNeeded_10 : decode cX6_mostNeeded 10 = .ok (.istore_n 3, 1) := by decide +kernel
theorem dX6_mostNeeded_11 : decode cX6_mostNeeded 11 = .ok (.iload_n 3, 1) := by decide +kernel
theorem dX6_mostNeeded_12 : decode cX6_mostNeeded 12 = .ok (.aload_n 0, 1) := by decide +kernel
theorem dX6_mostNeeded_13 : decode cX6_mostNeeded 13 = .ok (.invokevirtual 67, 3) := by decide +kernel
theorem dX6_mostNeeded_16 : decode cX6_mostNeeded 16 = .ok (.if_icmp .ge 59, 3) := by decide +kernel
theorem dX6_mostNeeded_19 : decode cX6_mostNeeded 19 = .ok (.iconst 0, 1) := by decide +kernel
theorem dX6_mostNeeded_20 : decode cX6_mostNeeded 20 = .ok (.istore 4, 2) := by decide +kernel
theorem dX6_mostNeeded_22 : decode cX6_mostNeeded 22 = .ok (.iconst 0, 1) := by decide +kernel
theorem dX6_mostNeeded_23 : decode cX6_mostNeeded 23 = .ok (.istore 5, 2) := by decide +kernel
theorem dX6_mostNeeded_25 : decode cX6_mostNeeded 25 = .ok (.iload 5, 2) := by decide +kernel
theorem dX6_mostNeeded_27 : decode cX6_mostNeeded 27 = .ok (.aload_n 0, 1) := by decide +kernel
theorem dX6_mostNeeded_28 : decode cX6_mostNeeded 28 = .ok (.invokevirtual 169, 3) := by decide +kernel
theorem dX6_mostNeeded_31 : decode cX6_mostNeeded 31 = .ok (.if_icmp .ge 24, 3) := by decide +kernel
theorem dX6_mostNeeded_34 : decode cX6_mostNeeded 34 = .ok (.iload 4, 2) := by decide +kernel
theorem dX6_mostNeeded_36 : decode cX6_mostNeeded 36 = .ok (.aload_n 0, 1) := by decide +kernel
theorem dX6_mostNeeded_37 : decode cX6_mostNeeded 37 = .ok (.iload 5, 2) := by decide +kernel
theorem dX6_mostNeeded_39 : decode cX6_mostNeeded 39 = .ok (.invokevirtual 306, 3) := by decide +kernel
theorem dX6_mostNeeded_42 : decode cX6_mostNeeded 42 = .ok (.iload_n 3, 1) := by decide +kernel
theorem dX6_mostNeeded_43 : decode cX6_mostNeeded 43 = .ok (.ishr, 1) := by decide +kernel
theorem dX6_mostNeeded_44 : decode cX6_mostNeeded 44 = .ok (.iconst 1, 1) := by decide +kernel
theorem dX6_mostNeeded_45 : decode cX6_mostNeeded 45 = .ok (.iand, 1) := by decide +kernel
theorem dX6_mostNeeded_46 : decode cX6_mostNeeded 46 = .ok (.iadd, 1) := by decide +kernel
theorem dX6_mostNeeded_47 : decode cX6_mostNeeded 47 = .ok (.istore 4, 2) := by decide +kernel
theorem dX6_mostNeeded_49 : decode cX6_mostNeeded 49 = .ok (.iinc 5 1, 3) := by decide +kernel
theorem dX6_mostNeeded_52 : decode cX6_mostNeeded 52 = .ok (.goto (-27), 3) := by decide +kernel
theorem dX6_mostNeeded_55 : decode cX6_mostNeeded 55 = .ok (.iload 4, 2) := by decide +kernel
theorem dX6_mostNeeded_57 : decode cX6_mostNeeded 57 = .ok (.iload_n 2, 1) := by decide +kernel
theorem dX6_mostNeeded_58 : decode cX6_mostNeeded 58 = .ok (.if_icmp .gt 6, 3) := by decide +kernel
theorem dX6_mostNeeded_61 : decode cX6_mostNeeded 61 = .ok (.goto 8, 3) := by decide +kernel
theorem dX6_mostNeeded_64 : decode cX6_mostNeeded 64 = .ok (.iload 4, 2) := by decide +kernel
theorem dX6_mostNeeded_66 : decode cX6_mostNeeded 66 = .ok (.istore_n 2, 1) := by decide +kernel
theorem dX6_mostNeeded_67 : decode cX6_mostNeeded 67 = .ok (.iload_n 3, 1) := by decide +kernel
theorem dX6_mostNeeded_68 : decode cX6_mostNeeded 68 = .ok (.istore_n 1, 1) := by decide +kernel
theorem dX6_mostNeeded_69 : decode cX6_mostNeeded 69 = .ok (.iinc 3 1, 3) := by decide +kernel
theorem dX6_mostNeeded_72 : decode cX6_mostNeeded 72 = .ok (.goto (-61), 3) := by decide +kernel
theorem dX6_mostNeeded_75 : decode cX6_mostNeeded 75 = .ok (.iload_n 1, 1) := by decide +kernel
theorem dX6_mostNeeded_76 : decode cX6_mostNeeded 76 = .ok (.ireturn, 1) := by decide +kernel
theorem dX6_reach_0 : decode cX6_reach 0 = .ok (.aload_n 0, 1) := by decide +kernel
theorem dX6_reach_1 : decode cX6_reach 1 = .ok (.aload_n 0, 1) := by decide +kernel
theorem dX6_reach_2 : decode cX6_reach 2 = .ok (.iload_n 1, 1) := by decide +kernel
theorem dX6_reach_3 : decode cX6_reach 3 = .ok (.invokevirtual 257, 3) := by decide +kernel
theorem dX6_reach_6 : decode cX6_reach 6 = .ok (.ifCond .eq 7, 3) := by decide +kernel
theorem dX6_reach_9 : decode cX6_reach 9 = .ok (.iconst 0, 1) := by decide +kernel
theorem dX6_reach_10 : decode cX6_reach 10 = .ok (.goto 4, 3) := by decide +kernel
theorem dX6_reach_13 : decode cX6_reach 13 = .ok (.iconst 1, 1) := by decide +kernel
theorem dX6_reach_14 : decode cX6_reach 14 = .ok (.putfield 49, 3) := by decide +kernel
theorem dX6_reach_17 : decode cX6_reach 17 = .ok (.aload_n 0, 1) := by decide +kernel
theorem dX6_reach_18 : decode cX6_reach 18 = .ok (.getfield 49, 3) := by decide +kernel
theorem dX6_reach_21 : decode cX6_reach 21 = .ok (.ifCond .le 5, 3) := by decide +kernel
theorem dX6_reach_24 : decode cX6_reach 24 = .ok (.iconst 0, 1) := by decide +kernel
theorem dX6_reach_25 : decode cX6_reach 25 = .ok (.ireturn, 1) := by decide +kernel
theorem dX6_reach_26 : decode cX6_reach 26 = .ok (.aload_n 0, 1) := by decide +kernel
theorem dX6_reach_27 : decode cX6_reach 27 = .ok (.iload_n 1, 1) := by decide +kernel
theorem dX6_reach_28 : decode cX6_reach 28 = .ok (.iconst 1, 1) := by decide +kernel
theorem dX6_reach_29 : decode cX6_reach 29 = .ok (.invokevirtual 226, 3) := by decide +kernel
theorem dX6_reach_32 : decode cX6_reach 32 = .ok (.istore_n 2, 1) := by decide +kernel
theorem dX6_reach_33 : decode cX6_reach 33 = .ok (.iconst 0, 1) := by decide +kernel
theorem dX6_reach_34 : decode cX6_reach 34 = .ok (.istore_n 3, 1) := by decide +kernel
theorem dX6_reach_35 : decode cX6_reach 35 = .ok (.iload_n 3, 1) := by decide +kernel
theorem dX6_reach_36 : decode cX6_reach 36 = .ok (.iload_n 2, 1) := by decide +kernel
theorem dX6_reach_37 : decode cX6_reach 37 = .ok (.if_icmp .eq 46, 3) := by decide +kernel
theorem dX6_reach_40 : decode cX6_reach 40 = .ok (.iload_n 2, 1) := by decide +kernel
theorem dX6_reach_41 : decode cX6_reach 41 = .ok (.istore_n 3, 1) := by decide +kernel
theorem dX6_reach_42 : decode cX6_reach 42 = .ok (.iconst 0, 1) := by decide +kernel
theorem dX6_reach_43 : decode cX6_reach 43 = .ok (.istore 4, 2) := by decide +kernel
theorem dX6_reach_45 : decode cX6_reach 45 = .ok (.iload 4, 2) := by decide +kernel
theorem dX6_reach_47 : decode cX6_reach 47 = .ok (.aload_n 0, 1) := by decide +kernel
theorem dX6_reach_48 : decode cX6_reach 48 = .ok (.invokevirtual 67, 3) := by decide +kernel
theorem dX6_reach_51 : decode cX6_reach 51 = .ok (.if_icmp .ge 29, 3) := by decide +kernel
theorem dX6_reach_54 : decode cX6_reach 54 = .ok (.iload_n 3, 1) := by decide +kernel
theorem dX6_reach_55 : decode cX6_reach 55 = .ok (.iload 4, 2) := by decide +kernel
theorem dX6_reach_57 : decode cX6_reach 57 = .ok (.ishr, 1) := by decide +kernel
theorem dX6_reach_58 : decode cX6_reach 58 = .ok (.iconst 1, 1) := by decide +kernel
theorem dX6_reach_59 : decode cX6_reach 59 = .ok (.iand, 1) := by decide +kernel
theorem dX6_reach_60 : decode cX6_reach 60 = .ok (.iconst 1, 1) := by decide +kernel
theorem dX6_reach_61 : decode cX6_reach 61 = .ok (.if_icmp .ne 13, 3) := by decide +kernel
theorem dX6_reach_64 : decode cX6_reach 64 = .ok (.iload_n 2, 1) := by decide +kernel
theorem dX6_reach_65 : decode cX6_reach 65 = .ok (.aload_n 0, 1) := by decide +kernel
theorem dX6_reach_66 : decode cX6_reach 66 = .ok (.iload 4, 2) := by decide +kernel
theorem dX6_reach_68 : decode cX6_reach 68 = .ok (.iconst 3, 1) := by decide +kernel
theorem dX6_reach_69 : decode cX6_reach 69 = .ok (.invokevirtual 206, 3) := by decide +kernel
theorem dX6_reach_72 : decode cX6_reach 72 = .ok (.ior, 1) := by decide +kernel
theorem dX6_reach_73 : decode cX6_reach 73 = .ok (.istore_n 2, 1) := by decide +kernel
theorem dX6_reach_74 : decode cX6_reach 74 = .ok (.iinc 4 1, 3) := by decide +kernel
theorem dX6_reach_77 : decode cX6_reach 77 = .ok (.goto (-32), 3) := by decide +kernel
theorem dX6_reach_80 : decode cX6_reach 80 = .ok (.goto (-45), 3) := by decide +kernel
theorem dX6_reach_83 : decode cX6_reach 83 = .ok (.iload_n 2, 1) := by decide +kernel
theorem dX6_reach_84 : decode cX6_reach 84 = .ok (.invokestatic 229, 3) := by decide +kernel
theorem dX6_reach_87 : decode cX6_reach 87 = .ok (.ireturn, 1) := by decide +kernel
theorem dX6_isAhead_0 : decode cX6_isAhead 0 = .ok (.iload_n 2, 1) := by decide +kernel
theorem dX6_isAhead_1 : decode cX6_isAhead 1 = .ok (.iconst (-1), 1) := by decide +kernel
theorem dX6_isAhead_2 : decode cX6_isAhead 2 = .ok (.if_icmp .eq 16, 3) := by decide +kernel
theorem dX6_isAhead_5 : decode cX6_isAhead 5 = .ok (.aload_n 0, 1) := by decide +kernel
theorem dX6_isAhead_6 : decode cX6_isAhead 6 = .ok (.iload_n 1, 1) := by decide +kernel
theorem dX6_isAhead_7 : decode cX6_isAhead 7 = .ok (.invokevirtual 185, 3) := by decide +kernel
theorem dX6_isAhead_10 : decode cX6_isAhead 10 = .ok (.aload_n 0, 1) := by decide +kernel
theorem dX6_isAhead_11 : decode cX6_isAhead 11 = .ok (.iload_n 2, 1) := by decide +kernel
theorem dX6_isAhead_12 : decode cX6_isAhead 12 = .ok (.invokevirtual 185, 3) := by decide +kernel
theorem dX6_isAhead_15 : decode cX6_isAhead 15 = .ok (.if_icmp .eq 27, 3) := by decide +kernel
theorem dX6_isAhead_18 : decode cX6_isAhead 18 = .ok (.iload_n 2, 1) := by decide +kernel
theorem dX6_isAhead_19 : decode cX6_isAhead 19 = .ok (.iconst (-1), 1) := by decide +kernel
theorem dX6_isAhead_20 : decode cX6_isAhead 20 = .ok (.if_icmp .eq 16, 3) := by decide +kernel
theorem dX6_isAhead_23 : decode cX6_isAhead 23 = .ok (.aload_n 0, 1) := by decide +kernel
theorem dX6_isAhead_24 : decode cX6_isAhead 24 = .ok (.iload_n 1, 1) := by decide +kernel
theorem dX6_isAhead_25 : decode cX6_isAhead 25 = .ok (.invokevirtual 185, 3) := by decide +kernel
theorem dX6_isAhead_28 : decode cX6_isAhead 28 = .ok (.aload_n 0, 1) := by decide +kernel
theorem dX6_isAhead_29 : decode cX6_isAhead 29 = .ok (.iload_n 2, 1) := by decide +kernel
theorem dX6_isAhead_30 : decode cX6_isAhead 30 = .ok (.invokevirtual 185, 3) := by decide +kernel
theorem dX6_isAhead_33 : decode cX6_isAhead 33 = .ok (.if_icmp .le 7, 3) := by decide +kernel
theorem dX6_isAhead_36 : decode cX6_isAhead 36 = .ok (.iconst 1, 1) := by decide +kernel
theorem dX6_isAhead_37 : decode cX6_isAhead 37 = .ok (.goto 4, 3) := by decide +kernel
theorem dX6_isAhead_40 : decode cX6_isAhead 40 = .ok (.iconst 0, 1) := by decide +kernel
theorem dX6_isAhead_41 : decode cX6_isAhead 41 = .ok (.ireturn, 1) := by decide +kernel
theorem dX6_isAhead_42 : decode cX6_isAhead 42 = .ok (.aload_n 0, 1) := by decide +kernel
theorem dX6_isAhead_43 : decode cX6_isAhead 43 = .ok (.iload_n 1, 1) := by decide +kernel
theorem dX6_isAhead_44 : decode cX6_isAhead 44 = .ok (.invokevirtual 254, 3) := by decide +kernel
theorem dX6_isAhead_47 : decode cX6_isAhead 47 = .ok (.aload_n 0, 1) := by decide +kernel
theorem dX6_isAhead_48 : decode cX6_isAhead 48 = .ok (.iload_n 2, 1) := by decide +kernel
theorem dX6_isAhead_49 : decode cX6_isAhead 49 = .ok (.invokevirtual 254, 3) := by decide +kernel
theorem dX6_isAhead_52 : decode cX6_isAhead 52 = .ok (.if_icmp .le 7, 3) := by decide +kernel
theorem dX6_isAhead_55 : decode cX6_isAhead 55 = .ok (.iconst 1, 1) := by decide +kernel
theorem dX6_isAhead_56 : decode cX6_isAhead 56 = .ok (.goto 4, 3) := by decide +kernel
theorem dX6_isAhead_59 : decode cX6_isAhead 59 = .ok (.iconst 0, 1) := by decide +kernel
theorem dX6_isAhead_60 : decode cX6_isAhead 60 = .ok (.ireturn, 1) := by decide +kernel
theorem dX6_nextFor_0 : decode cX6_nextFor 0 = .ok (.iconst (-1), 1) := by decide +kernel
theorem dX6_nextFor_1 : decode cX6_nextFor 1 = .ok (.istore_n 2, 1) := by decide +kernel
theorem dX6_nextFor_2 : decode cX6_nextFor 2 = .ok (.iconst 0, 1) := by decide +kernel
theorem dX6_nextFor_3 : decode cX6_nextFor 3 = .ok (.istore_n 3, 1) := by decide +kernel
theorem dX6_nextFor_4 : decode cX6_nextFor 4 = .ok (.iload_n 3, 1) := by decide +kernel
theorem dX6_nextFor_5 : decode cX6_nextFor 5 = .ok (.aload_n 0, 1) := by decide +kernel
theorem dX6_nextFor_6 : decode cX6_nextFor 6 = .ok (.invokevirtual 67, 3) := by decide +kernel
theorem dX6_nextFor_9 : decode cX6_nextFor 9 = .ok (.if_icmp .ge 46, 3) := by decide +kernel
theorem dX6_nextFor_12 : decode cX6_nextFor 12 = .ok (.aload_n 0, 1) := by decide +kernel
theorem dX6_nextFor_13 : decode cX6_nextFor 13 = .ok (.iload_n 1, 1) := by decide +kernel
theorem dX6_nextFor_14 : decode cX6_nextFor 14 = .ok (.iload_n 3, 1) := by decide +kernel
theorem dX6_nextFor_15 : decode cX6_nextFor 15 = .ok (.invokevirtual 182, 3) := by decide +kernel
theorem dX6_nextFor_18 : decode cX6_nextFor 18 = .ok (.ifCond .ne 31, 3) := by decide +kernel
theorem dX6_nextFor_21 : decode cX6_nextFor 21 = .ok (.aload_n 0, 1) := by decide +kernel
theorem dX6_nextFor_22 : decode cX6_nextFor 22 = .ok (.iload_n 3, 1) := by decide +kernel
theorem dX6_nextFor_23 : decode cX6_nextFor 23 = .ok (.invokevirtual 185, 3) := by decide +kernel
theorem dX6_nextFor_26 : decode cX6_nextFor 26 = .ok (.ifCond .le 23, 3) := by decide +kernel
theorem dX6_nextFor_29 : decode cX6_nextFor 29 = .ok (.aload_n 0, 1) := by decide +kernel
theorem dX6_nextFor_30 : decode cX6_nextFor 30 = .ok (.iload_n 1, 1) := by decide +kernel
theorem dX6_nextFor_31 : decode cX6_nextFor 31 = .ok (.iload_n 3, 1) := by decide +kernel
theorem dX6_nextFor_32 : decode cX6_nextFor 32 = .ok (.invokevirtual 285, 3) := by decide +kernel
theorem dX6_nextFor_35 : decode cX6_nextFor 35 = .ok (.ifCond .eq 14, 3) := by decide +kernel
theorem dX6_nextFor_38 : decode cX6_nextFor 38 = .ok (.aload_n 0, 1) := by decide +kernel
theorem dX6_nextFor_39 : decode cX6_nextFor 39 = .ok (.iload_n 3, 1) := by decide +kernel
theorem dX6_nextFor_40 : decode cX6_nextFor 40 = .ok (.iload_n 2, 1) := by decide +kernel
theorem dX6_nextFor_41 : decode cX6_nextFor 41 = .ok (.invokevirtual 309, 3) := by decide +kernel
theorem dX6_nextFor_44 : decode cX6_nextFor 44 = .ok (.ifCond .eq 5, 3) := by decide +kernel
theorem dX6_nextFor_47 : decode cX6_nextFor 47 = .ok (.iload_n 3, 1) := by decide +kernel
theorem dX6_nextFor_48 : decode cX6_nextFor 48 = .ok (.istore_n 2, 1) := by decide +kernel
theorem dX6_nextFor_49 : decode cX6_nextFor 49 = .ok (.iinc 3 1, 3) := by decide +kernel
theorem dX6_nextFor_52 : decode cX6_nextFor 52 = .ok (.goto (-48), 3) := by decide +kernel
theorem dX6_nextFor_55 : decode cX6_nextFor 55 = .ok (.iload_n 2, 1) := by decide +kernel
theorem dX6_nextFor_56 : decode cX6_nextFor 56 = .ok (.ireturn, 1) := by decide +kernel
theorem dX6_spreads_0 : decode cX6_spreads 0 = .ok (.iconst 0, 1) := by decide +kernel
theorem dX6_spreads_1 : decode cX6_spreads 1 = .ok (.istore_n 1, 1) := by decide +kernel
theorem dX6_spreads_2 : decode cX6_spreads 2 = .ok (.iconst 0, 1) := by decide +kernel
theorem dX6_spreads_3 : decode cX6_spreads 3 = .ok (.istore_n 2, 1) := by decide +kernel
theorem dX6_spreads_4 : decode cX6_spreads 4 = .ok (.iload_n 2, 1) := by decide +kernel
theorem dX6_spreads_5 : decode cX6_spreads 5 = .ok (.aload_n 0, 1) := by decide +kernel
theorem dX6_spreads_6 : decode cX6_spreads 6 = .ok (.invokevirtual 169, 3) := by decide +kernel
theorem dX6_spreads_9 : decode cX6_spreads 9 = .ok (.if_icmp .ge 56, 3) := by decide +kernel
theorem dX6_spreads_12 : decode cX6_spreads 12 = .ok (.aload_n 0, 1) := by decide +kernel
theorem dX6_spreads_13 : decode cX6_spreads 13 = .ok (.iload_n 2, 1) := by decide +kernel
theorem dX6_spreads_14 : decode cX6_spreads 14 = .ok (.invokevirtual 312, 3) := by decide +kernel
theorem dX6_spreads_17 : decode cX6_spreads 17 = .ok (.istore_n 3, 1) := by decide +kernel
theorem dX6_spreads_18 : decode cX6_spreads 18 = .ok (.aload_n 0, 1) := by decide +kernel
theorem dX6_spreads_19 : decode cX6_spreads 19 = .ok (.iload_n 2, 1) := by decide +kernel
theorem dX6_spreads_20 : decode cX6_spreads 20 = .ok (.invokevirtual 238, 3) := by decide +kernel
theorem dX6_spreads_23 : decode cX6_spreads 23 = .ok (.ifCond .eq 36, 3) := by decide +kernel
theorem dX6_spreads_26 : decode cX6_spreads 26 = .ok (.iload_n 3, 1) := by decide +kernel
theorem dX6_spreads_27 : decode cX6_spreads 27 = .ok (.iconst (-1), 1) := by decide +kernel
theorem dX6_spreads_28 : decode cX6_spreads 28 = .ok (.if_icmp .eq 31, 3) := by decide +kernel
theorem dX6_spreads_31 : decode cX6_spreads 31 = .ok (.aload_n 0, 1) := by decide +kernel
theorem dX6_spreads_32 : decode cX6_spreads 32 = .ok (.iload_n 2, 1) := by decide +kernel
theorem dX6_spreads_33 : decode cX6_spreads 33 = .ok (.iload_n 3, 1) := by decide +kernel
theorem dX6_spreads_34 : decode cX6_spreads 34 = .ok (.invokevirtual 291, 3) := by decide +kernel
theorem dX6_spreads_37 : decode cX6_spreads 37 = .ok (.istore 4, 2) := by decide +kernel
theorem dX6_spreads_39 : decode cX6_spreads 39 = .ok (.aload_n 0, 1) := by decide +kernel
theorem dX6_spreads_40 : decode cX6_spreads 40 = .ok (.iload_n 2, 1) := by decide +kernel
theorem dX6_spreads_41 : decode cX6_spreads 41 = .ok (.iload_n 3, 1) := by decide +kernel
theorem dX6_spreads_42 : decode cX6_spreads 42 = .ok (.iload 4, 2) := by decide +kernel
theorem dX6_spreads_44 : decode cX6_spreads 44 = .ok (.invokevirtual 172, 3) := by decide +kernel
theorem dX6_spreads_47 : decode cX6_spreads 47 = .ok (.iinc 1 1, 3) := by decide +kernel
theorem dX6_spreads_50 : decode cX6_spreads 50 = .ok (.aload_n 0, 1) := by decide +kernel
theorem dX6_spreads_51 : decode cX6_spreads 51 = .ok (.iload_n 2, 1) := by decide +kernel
theorem dX6_spreads_52 : decode cX6_spreads 52 = .ok (.invokevirtual 312, 3) := by decide +kernel
theorem dX6_spreads_55 : decode cX6_spreads 55 = .ok (.istore_n 3, 1) := by decide +kernel
theorem dX6_spreads_56 : decode cX6_spreads 56 = .ok (.goto (-38), 3) := by decide +kernel
theorem dX6_spreads_59 : decode cX6_spreads 59 = .ok (.iinc 2 1, 3) := by decide +kernel
theorem dX6_spreads_62 : decode cX6_spreads 62 = .ok (.goto (-58), 3) := by decide +kernel
theorem dX6_spreads_65 : decode cX6_spreads 65 = .ok (.iload_n 1, 1) := by decide +kernel
theorem dX6_spreads_66 : decode cX6_spreads 66 = .ok (.ireturn, 1) := by decide +kernel
theorem dX6_wouldSpread_0 : decode cX6_wouldSpread 0 = .ok (.aload_n 0, 1) := by decide +kernel
theorem dX6_wouldSpread_1 : decode cX6_wouldSpread 1 = .ok (.iconst 0, 1) := by decide +kernel
theorem dX6_wouldSpread_2 : decode cX6_wouldSpread 2 = .ok (.putfield 49, 3) := by decide +kernel
theorem dX6_wouldSpread_5 : decode cX6_wouldSpread 5 = .ok (.aload_n 0, 1) := by decide +kernel
theorem dX6_wouldSpread_6 : decode cX6_wouldSpread 6 = .ok (.getfield 16, 3) := by decide +kernel
theorem dX6_wouldSpread_9 : decode cX6_wouldSpread 9 = .ok (.iconst 0, 1) := by decide +kernel
theorem dX6_wouldSpread_10 : decode cX6_wouldSpread 10 = .ok (.aload_n 0, 1) := by decide +kernel
theorem dX6_wouldSpread_11 : decode cX6_wouldSpread 11 = .ok (.getfield 7, 3) := by decide +kernel
theorem dX6_wouldSpread_14 : decode cX6_wouldSpread 14 = .ok (.iconst 0, 1) := by decide +kernel
theorem dX6_wouldSpread_15 : decode cX6_wouldSpread 15 = .ok (.invokestatic 55, 3) := by decide +kernel
theorem dX6_wouldSpread_18 : decode cX6_wouldSpread 18 = .ok (.aload_n 0, 1) := by decide +kernel
theorem dX6_wouldSpread_19 : decode cX6_wouldSpread 19 = .ok (.invokevirtual 315, 3) := by decide +kernel
theorem dX6_wouldSpread_22 : decode cX6_wouldSpread 22 = .ok (.istore_n 1, 1) := by decide +kernel
theorem dX6_wouldSpread_23 : decode cX6_wouldSpread 23 = .ok (.aload_n 0, 1) := by decide +kernel
theorem dX6_wouldSpread_24 : decode cX6_wouldSpread 24 = .ok (.getfield 7, 3) := by decide +kernel
theorem dX6_wouldSpread_27 : decode cX6_wouldSpread 27 = .ok (.iconst 0, 1) := by decide +kernel
theorem dX6_wouldSpread_28 : decode cX6_wouldSpread 28 = .ok (.aload_n 0, 1) := by decide +kernel
theorem dX6_wouldSpread_29 : decode cX6_wouldSpread 29 = .ok (.getfield 16, 3) := by decide +kernel
theorem dX6_wouldSpread_32 : decode cX6_wouldSpread 32 = .ok (.iconst 0, 1) := by decide +kernel
theorem dX6_wouldSpread_33 : decode cX6_wouldSpread 33 = .ok (.invokestatic 55, 3) := by decide +kernel
theorem dX6_wouldSpread_36 : decode cX6_wouldSpread 36 = .ok (.iload_n 1, 1) := by decide +kernel
theorem dX6_wouldSpread_37 : decode cX6_wouldSpread 37 = .ok (.ireturn, 1) := by decide +kernel
theorem dX6_dangersWith_0 : decode cX6_dangersWith 0 = .ok (.aload_n 0, 1) := by decide +kernel
theorem dX6_dangersWith_1 : decode cX6_dangersWith 1 = .ok (.getfield 16, 3) := by decide +kernel
theorem dX6_dangersWith_4 : decode cX6_dangersWith 4 = .ok (.iconst 0, 1) := by decide +kernel
theorem dX6_dangersWith_5 : decode cX6_dangersWith 5 = .ok (.aload_n 0, 1) := by decide +kernel
theorem dX6_dangersWith_6 : decode cX6_dangersWith 6 = .ok (.getfield 7, 3) := by decide +kernel
theorem dX6_dangersWith_9 : decode cX6_dangersWith 9 = .ok (.iconst 0, 1) := by decide +kernel
theorem dX6_dangersWith_10 : decode cX6_dangersWith 10 = .ok (.invokestatic 55, 3) := by decide +kernel
theorem dX6_dangersWith_13 : decode cX6_dangersWith 13 = .ok (.iload_n 1, 1) := by decide +kernel
theorem dX6_dangersWith_14 : decode cX6_dangersWith 14 = .ok (.iconst (-1), 1) := by decide +kernel
theorem dX6_dangersWith_15 : decode cX6_dangersWith 15 = .ok (.if_icmp .eq 9, 3) := by decide +kernel
theorem dX6_dangersWith_18 : decode cX6_dangersWith 18 = .ok (.aload_n 0, 1) := by decide +kernel
theorem dX6_dangersWith_19 : decode cX6_dangersWith 19 = .ok (.iload_n 1, 1) := by decide +kernel
theorem dX6_dangersWith_20 : decode cX6_dangersWith 20 = .ok (.iload_n 2, 1) := by decide +kernel
theorem dX6_dangersWith_21 : decode cX6_dangersWith 21 = .ok (.invokevirtual 165, 3) := by decide +kernel
theorem dX6_dangersWith_24 : decode cX6_dangersWith 24 = .ok (.aload_n 0, 1) := by decide +kernel
theorem dX6_dangersWith_25 : decode cX6_dangersWith 25 = .ok (.aload_n 0, 1) := by decide +kernel
theorem dX6_dangersWith_26 : decode cX6_dangersWith 26 = .ok (.invokevirtual 315, 3) := by decide +kernel
theorem dX6_dangersWith_29 : decode cX6_dangersWith 29 = .ok (.putfield 282, 3) := by decide +kernel
theorem dX6_dangersWith_32 : decode cX6_dangersWith 32 = .ok (.aload_n 0, 1) := by decide +kernel
theorem dX6_dangersWith_33 : decode cX6_dangersWith 33 = .ok (.iconst 0, 1) := by decide +kernel
theorem dX6_dangersWith_34 : decode cX6_dangersWith 34 = .ok (.invokevirtual 244, 3) := by decide +kernel
theorem dX6_dangersWith_37 : decode cX6_dangersWith 37 = .ok (.istore_n 3, 1) := by decide +kernel
theorem dX6_dangersWith_38 : decode cX6_dangersWith 38 = .ok (.aload_n 0, 1) := by decide +kernel
theorem dX6_dangersWith_39 : decode cX6_dangersWith 39 = .ok (.getfield 7, 3) := by decide +kernel
theorem dX6_dangersWith_42 : decode cX6_dangersWith 42 = .ok (.iconst 0, 1) := by decide +kernel
theorem dX6_dangersWith_43 : decode cX6_dangersWith 43 = .ok (.aload_n 0, 1) := by decide +kernel
theorem dX6_dangersWith_44 : decode cX6_dangersWith 44 = .ok (.getfield 16, 3) := by decide +kernel
theorem dX6_dangersWith_47 : decode cX6_dangersWith 47 = .ok (.iconst 0, 1) := by decide +kernel
theorem dX6_dangersWith_48 : decode cX6_dangersWith 48 = .ok (.invokestatic 55, 3) := by decide +kernel
theorem dX6_dangersWith_51 : decode cX6_dangersWith 51 = .ok (.iload_n 3, 1) := by decide +kernel
theorem dX6_dangersWith_52 : decode cX6_dangersWith 52 = .ok (.ireturn, 1) := by decide +kernel
theorem dX6_bestPair_0 : decode cX6_bestPair 0 = .ok (.aload_n 0, 1) := by decide +kernel
theorem dX6_bestPair_1 : decode cX6_bestPair 1 = .ok (.iconst 0, 1) := by decide +kernel
theorem dX6_bestPair_2 : decode cX6_bestPair 2 = .ok (.putfield 49, 3) := by decide +kernel
theorem dX6_bestPair_5 : decode cX6_bestPair 5 = .ok (.iconst (-1), 1) := by decide +kernel
theorem dX6_bestPair_6 : decode cX6_bestPair 6 = .ok (.istore_n 1, 1) := by decide +kernel
theorem dX6_bestPair_7 : decode cX6_bestPair 7 = .ok (.aload_n 0, 1) := by decide +kernel
theorem dX6_bestPair_8 : decode cX6_bestPair 8 = .ok (.iconst (-1), 1) := by decide +kernel
theorem dX6_bestPair_9 : decode cX6_bestPair 9 = .ok (.iconst (-1), 1) := by decide +kernel
theorem dX6_bestPair_10 : decode cX6_bestPair 10 = .ok (.invokevirtual 318, 3) := by decide +kernel
theorem dX6_bestPair_13 : decode cX6_bestPair 13 = .ok (.istore_n 2, 1) := by decide +kernel
theorem dX6_bestPair_14 : decode cX6_bestPair 14 = .ok (.iconst 0, 1) := by decide +kernel
theorem dX6_bestPair_15 : decode cX6_bestPair 15 = .ok (.istore_n 3, 1) := by decide +kernel
theorem dX6_bestPair_16 : decode cX6_bestPair 16 = .ok (.iload_n 3, 1) := by decide +kernel
theorem dX6_bestPair_17 : decode cX6_bestPair 17 = .ok (.aload_n 0, 1) := by decide +kernel
theorem dX6_bestPair_18 : decode cX6_bestPair 18 = .ok (.invokevirtual 67, 3) := by decide +kernel
theorem dX6_bestPair_21 : decode cX6_bestPair 21 = .ok (.if_icmp .ge 72, 3) := by decide +kernel
theorem dX6_bestPair_24 : decode cX6_bestPair 24 = .ok (.iload_n 3, 1) := by decide +kernel
theorem dX6_bestPair_25 : decode cX6_bestPair 25 = .ok (.iconst 1, 1) := by decide +kernel
theorem dX6_bestPair_26 : decode cX6_bestPair 26 = .ok (.iadd, 1) := by decide +kernel
theorem dX6_bestPair_27 : decode cX6_bestPair 27 = .ok (.istore 4, 2) := by decide +kernel
theorem dX6_bestPair_29 : decode cX6_bestPair 29 = .ok (.iload 4, 2) := by decide +kernel
theorem dX6_bestPair_31 : decode cX6_bestPair 31 = .ok (.aload_n 0, 1) := by decide +kernel
theorem dX6_bestPair_32 : decode cX6_bestPair 32 = .ok (.invokevirtual 67, 3) := by decide +kernel
theorem dX6_bestPair_35 : decode cX6_bestPair 35 = .ok (.if_icmp .ge 52, 3) := by decide +kernel
theorem dX6_bestPair_38 : decode cX6_bestPair 38 = .ok (.aload_n 0, 1) := by decide +kernel
theorem dX6_bestPair_39 : decode cX6_bestPair 39 = .ok (.iload_n 3, 1) := by decide +kernel
theorem dX6_bestPair_40 : decode cX6_bestPair 40 = .ok (.iload 4, 2) := by decide +kernel
theorem dX6_bestPair_42 : decode cX6_bestPair 42 = .ok (.invokevirtual 161, 3) := by decide +kernel
theorem dX6_bestPair_45 : decode cX6_bestPair 45 = .ok (.ifCond .eq 7, 3) := by decide +kernel
theorem dX6_bestPair_48 : decode cX6_bestPair 48 = .ok (.iload_n 2, 1) := by decide +kernel
theorem dX6_bestPair_49 : decode cX6_bestPair 49 = .ok (.goto 10, 3) := by decide +kernel
theorem dX6_bestPair_52 : decode cX6_bestPair 52 = .ok (.aload_n 0, 1) := by decide +kernel
theorem dX6_bestPair_53 : decode cX6_bestPair 53 = .ok (.iload_n 3, 1) := by decide +kernel
theorem dX6_bestPair_54 : decode cX6_bestPair 54 = .ok (.iload 4, 2) := by decide +kernel
theorem dX6_bestPair_56 : decode cX6_bestPair 56 = .ok (.invokevirtual 318, 3) := by decide +kernel
theorem dX6_bestPair_59 : decode cX6_bestPair 59 = .ok (.istore 5, 2) := by decide +kernel
theorem dX6_bestPair_61 : decode cX6_bestPair 61 = .ok (.iload 5, 2) := by decide +kernel
theorem dX6_bestPair_63 : decode cX6_bestPair 63 = .ok (.iload_n 2, 1) := by decide +kernel
theorem dX6_bestPair_64 : decode cX6_bestPair 64 = .ok (.if_icmp .lt 6, 3) := by decide +kernel
theorem dX6_bestPair_67 : decode cX6_bestPair 67 = .ok (.goto 14, 3) := by decide +kernel
theorem dX6_bestPair_70 : decode cX6_bestPair 70 = .ok (.iload 5, 2) := by decide +kernel
theorem dX6_bestPair_72 : decode cX6_bestPair 72 = .ok (.istore_n 2, 1) := by decide +kernel
theorem dX6_bestPair_73 : decode cX6_bestPair 73 = .ok (.bipush 10, 2) := by decide +kernel
theorem dX6_bestPair_75 : decode cX6_bestPair 75 = .ok (.iload_n 3, 1) := by decide +kernel
theorem dX6_bestPair_76 : decode cX6_bestPair 76 = .ok (.imul, 1) := by decide +kernel
theorem dX6_bestPair_77 : decode cX6_bestPair 77 = .ok (.iload 4, 2) := by decide +kernel
theorem dX6_bestPair_79 : decode cX6_bestPair 79 = .ok (.iadd, 1) := by decide +kernel
theorem dX6_bestPair_80 : decode cX6_bestPair 80 = .ok (.istore_n 1, 1) := by decide +kernel
theorem dX6_bestPair_81 : decode cX6_bestPair 81 = .ok (.iinc 4 1, 3) := by decide +kernel
theorem dX6_bestPair_84 : decode cX6_bestPair 84 = .ok (.goto (-55), 3) := by decide +kernel
theorem dX6_bestPair_87 : decode cX6_bestPair 87 = .ok (.iinc 3 1, 3) := by decide +kernel
theorem dX6_bestPair_90 : decode cX6_bestPair 90 = .ok (.goto (-74), 3) := by decide +kernel
theorem dX6_bestPair_93 : decode cX6_bestPair 93 = .ok (.iload_n 1, 1) := by decide +kernel
theorem dX6_bestPair_94 : decode cX6_bestPair 94 = .ok (.ireturn, 1) := by decide +kernel
theorem dX6_soundness_0 : decode cX6_soundness 0 = .ok (.aload_n 0, 1) := by decide +kernel
theorem dX6_soundness_1 : decode cX6_soundness 1 = .ok (.iconst 0, 1) := by decide +kernel
theorem dX6_soundness_2 : decode cX6_soundness 2 = .ok (.putfield 49, 3) := by decide +kernel
theorem dX6_soundness_5 : decode cX6_soundness 5 = .ok (.aload_n 0, 1) := by decide +kernel
theorem dX6_soundness_6 : decode cX6_soundness 6 = .ok (.iconst 1, 1) := by decide +kernel
theorem dX6_soundness_7 : decode cX6_soundness 7 = .ok (.invokevirtual 241, 3) := by decide +kernel
theorem dX6_soundness_10 : decode cX6_soundness 10 = .ok (.istore_n 1, 1) := by decide +kernel
theorem dX6_soundness_11 : decode cX6_soundness 11 = .ok (.iload_n 1, 1) := by decide +kernel
theorem dX6_soundness_12 : decode cX6_soundness 12 = .ok (.ifCond .ne 7, 3) := by decide +kernel
theorem dX6_soundness_15 : decode cX6_soundness 15 = .ok (.fconst 0, 1) := by decide +kernel
theorem dX6_soundness_16 : decode cX6_soundness 16 = .ok (.goto 12, 3) := by decide +kernel
theorem dX6_soundness_19 : decode cX6_soundness 19 = .ok (.aload_n 0, 1) := by decide +kernel
theorem dX6_soundness_20 : decode cX6_soundness 20 = .ok (.iconst 3, 1) := by decide +kernel
theorem dX6_soundness_21 : decode cX6_soundness 21 = .ok (.invokevirtual 241, 3) := by decide +kernel
theorem dX6_soundness_24 : decode cX6_soundness 24 = .ok (.i2f, 1) := by decide +kernel
theorem dX6_soundness_25 : decode cX6_soundness 25 = .ok (.iload_n 1, 1) := by decide +kernel
theorem dX6_soundness_26 : decode cX6_soundness 26 = .ok (.i2f, 1) := by decide +kernel
theorem dX6_soundness_27 : decode cX6_soundness 27 = .ok (.fdiv, 1) := by decide +kernel
theorem dX6_soundness_28 : decode cX6_soundness 28 = .ok (.freturn, 1) := by decide +kernel
theorem dX6_ask_0 : decode cX6_ask 0 = .ok (.aload_n 0, 1) := by decide +kernel
theorem dX6_ask_1 : decode cX6_ask 1 = .ok (.aload_n 0, 1) := by decide +kernel
theorem dX6_ask_2 : decode cX6_ask 2 = .ok (.iload_n 1, 1) := by decide +kernel
theorem dX6_ask_3 : decode cX6_ask 3 = .ok (.invokevirtual 257, 3) := by decide +kernel
theorem dX6_ask_6 : decode cX6_ask 6 = .ok (.ifCond .eq 31, 3) := by decide +kernel
theorem dX6_ask_9 : decode cX6_ask 9 = .ok (.aload_n 0, 1) := by decide +kernel
theorem dX6_ask_10 : decode cX6_ask 10 = .ok (.iload_n 2, 1) := by decide +kernel
theorem dX6_ask_11 : decode cX6_ask 11 = .ok (.invokevirtual 251, 3) := by decide +kernel
theorem dX6_ask_14 : decode cX6_ask 14 = .ok (.ifCond .eq 23, 3) := by decide +kernel
theorem dX6_ask_17 : decode cX6_ask 17 = .ok (.iload_n 3, 1) := by decide +kernel
theorem dX6_ask_18 : decode cX6_ask 18 = .ok (.iconst 0, 1) := by decide +kernel
theorem dX6_ask_19 : decode cX6_ask 19 = .ok (.aload_n 0, 1) := by decide +kernel
theorem dX6_ask_20 : decode cX6_ask 20 = .ok (.getfield 7, 3) := by decide +kernel
theorem dX6_ask_23 : decode cX6_ask 23 = .ok (.iconst 0, 1) := by decide +kernel
theorem dX6_ask_24 : decode cX6_ask 24 = .ok (.iaload, 1) := by decide +kernel
theorem dX6_ask_25 : decode cX6_ask 25 = .ok (.iconst 1, 1) := by decide +kernel
theorem dX6_ask_26 : decode cX6_ask 26 = .ok (.isub, 1) := by decide +kernel
theorem dX6_ask_27 : decode cX6_ask 27 = .ok (.invokestatic 59, 3) := by decide +kernel
theorem dX6_ask_30 : decode cX6_ask 30 = .ok (.ifCond .eq 7, 3) := by decide +kernel
theorem dX6_ask_33 : decode cX6_ask 33 = .ok (.iconst 0, 1) := by decide +kernel
theorem dX6_ask_34 : decode cX6_ask 34 = .ok (.goto 4, 3) := by decide +kernel
theorem dX6_ask_37 : decode cX6_ask 37 = .ok (.iconst 1, 1) := by decide +kernel
theorem dX6_ask_38 : decode cX6_ask 38 = .ok (.putfield 49, 3) := by decide +kernel
theorem dX6_ask_41 : decode cX6_ask 41 = .ok (.aload_n 0, 1) := by decide +kernel
theorem dX6_ask_42 : decode cX6_ask 42 = .ok (.getfield 49, 3) := by decide +kernel
theorem dX6_ask_45 : decode cX6_ask 45 = .ok (.ifCond .le 5, 3) := by decide +kernel
theorem dX6_ask_48 : decode cX6_ask 48 = .ok (.iconst 0, 1) := by decide +kernel
theorem dX6_ask_49 : decode cX6_ask 49 = .ok (.ireturn, 1) := by decide +kernel
theorem dX6_ask_50 : decode cX6_ask 50 = .ok (.aload_n 0, 1) := by decide +kernel
theorem dX6_ask_51 : decode cX6_ask 51 = .ok (.iload_n 1, 1) := by decide +kernel
theorem dX6_ask_52 : decode cX6_ask 52 = .ok (.iload_n 2, 1) := by decide +kernel
theorem dX6_ask_53 : decode cX6_ask 53 = .ok (.invokevirtual 182, 3) := by decide +kernel
theorem dX6_ask_56 : decode cX6_ask 56 = .ok (.istore 4, 2) := by decide +kernel
theorem dX6_ask_58 : decode cX6_ask 58 = .ok (.iload 4, 2) := by decide +kernel
theorem dX6_ask_60 : decode cX6_ask 60 = .ok (.ifCond .ne 6, 3) := by decide +kernel
theorem dX6_ask_63 : decode cX6_ask 63 = .ok (.bipush (-11), 2) := by decide +kernel
theorem dX6_ask_65 : decode cX6_ask 65 = .ok (.ireturn, 1) := by decide +kernel
theorem dX6_ask_66 : decode cX6_ask 66 = .ok (.iload 4, 2) := by decide +kernel
theorem dX6_ask_68 : decode cX6_ask 68 = .ok (.invokestatic 214, 3) := by decide +kernel
theorem dX6_ask_71 : decode cX6_ask 71 = .ok (.ifCond .eq 6, 3) := by decide +kernel
theorem dX6_ask_74 : decode cX6_ask 74 = .ok (.bipush (-12), 2) := by decide +kernel
theorem dX6_ask_76 : decode cX6_ask 76 = .ok (.ireturn, 1) := by decide +kernel
theorem dX6_ask_77 : decode cX6_ask 77 = .ok (.aload_n 0, 1) := by decide +kernel
theorem dX6_ask_78 : decode cX6_ask 78 = .ok (.aload_n 0, 1) := by decide +kernel
theorem dX6_ask_79 : decode cX6_ask 79 = .ok (.getfield 7, 3) := by decide +kernel
theorem dX6_ask_82 : decode cX6_ask 82 = .ok (.invokevirtual 63, 3) := by decide +kernel
theorem dX6_ask_85 : decode cX6_ask 85 = .ok (.aload_n 0, 1) := by decide +kernel
theorem dX6_ask_86 : decode cX6_ask 86 = .ok (.iload_n 1, 1) := by decide +kernel
theorem dX6_ask_87 : decode cX6_ask 87 = .ok (.iload_n 2, 1) := by decide +kernel
theorem dX6_ask_88 : decode cX6_ask 88 = .ok (.iload_n 3, 1) := by decide +kernel
theorem dX6_ask_89 : decode cX6_ask 89 = .ok (.invokevirtual 276, 3) := by decide +kernel
theorem dX6_ask_92 : decode cX6_ask 92 = .ok (.ifCond .eq 7, 3) := by decide +kernel
theorem dX6_ask_95 : decode cX6_ask 95 = .ok (.iconst 1, 1) := by decide +kernel
theorem dX6_ask_96 : decode cX6_ask 96 = .ok (.goto 4, 3) := by decide +kernel
theorem dX6_ask_99 : decode cX6_ask 99 = .ok (.iconst 0, 1) := by decide +kernel
theorem dX6_ask_100 : decode cX6_ask 100 = .ok (.ireturn, 1) := by decide +kernel
theorem dX6_round_0 : decode cX6_round 0 = .ok (.aload_n 0, 1) := by decide +kernel
theorem dX6_round_1 : decode cX6_round 1 = .ok (.iload_n 1, 1) := by decide +kernel
theorem dX6_round_2 : decode cX6_round 2 = .ok (.ifCond .ge 7, 3) := by decide +kernel
theorem dX6_round_5 : decode cX6_round 5 = .ok (.iconst 1, 1) := by decide +kernel
theorem dX6_round_6 : decode cX6_round 6 = .ok (.goto 4, 3) := by decide +kernel
theorem dX6_round_9 : decode cX6_round 9 = .ok (.iconst 0, 1) := by decide +kernel
theorem dX6_round_10 : decode cX6_round 10 = .ok (.putfield 49, 3) := by decide +kernel
theorem dX6_round_13 : decode cX6_round 13 = .ok (.aload_n 0, 1) := by decide +kernel
theorem dX6_round_14 : decode cX6_round 14 = .ok (.getfield 49, 3) := by decide +kernel
theorem dX6_round_17 : decode cX6_round 17 = .ok (.ifCond .le 5, 3) := by decide +kernel
theorem dX6_round_20 : decode cX6_round 20 = .ok (.iconst 0, 1) := by decide +kernel
theorem dX6_round_21 : decode cX6_round 21 = .ok (.ireturn, 1) := by decide +kernel
theorem dX6_round_22 : decode cX6_round 22 = .ok (.aload_n 0, 1) := by decide +kernel
theorem dX6_round_23 : decode cX6_round 23 = .ok (.aload_n 0, 1) := by decide +kernel
theorem dX6_round_24 : decode cX6_round 24 = .ok (.getfield 7, 3) := by decide +kernel
theorem dX6_round_27 : decode cX6_round 27 = .ok (.invokevirtual 63, 3) := by decide +kernel
theorem dX6_round_30 : decode cX6_round 30 = .ok (.aload_n 0, 1) := by decide +kernel
theorem dX6_round_31 : decode cX6_round 31 = .ok (.iload_n 1, 1) := by decide +kernel
theorem dX6_round_32 : decode cX6_round 32 = .ok (.i2l, 1) := by decide +kernel
theorem dX6_round_33 : decode cX6_round 33 = .ok (.putfield 266, 3) := by decide +kernel
theorem dX6_round_36 : decode cX6_round 36 = .ok (.aload_n 0, 1) := by decide +kernel
theorem dX6_round_37 : decode cX6_round 37 = .ok (.invokevirtual 279, 3) := by decide +kernel
theorem dX6_round_40 : decode cX6_round 40 = .ok (.ireturn, 1) := by decide +kernel
theorem dX6_harm_0 : decode cX6_harm 0 = .ok (.aload_n 0, 1) := by decide +kernel
theorem dX6_harm_1 : decode cX6_harm 1 = .ok (.aload_n 0, 1) := by decide +kernel
theorem dX6_harm_2 : decode cX6_harm 2 = .ok (.iload_n 1, 1) := by decide +kernel
theorem dX6_harm_3 : decode cX6_harm 3 = .ok (.invokevirtual 251, 3) := by decide +kernel
theorem dX6_harm_6 : decode cX6_harm 6 = .ok (.ifCond .ne 7, 3) := by decide +kernel
theorem dX6_harm_9 : decode cX6_harm 9 = .ok (.iconst 1, 1) := by decide +kernel
theorem dX6_harm_10 : decode cX6_harm 10 = .ok (.goto 26, 3) := by decide +kernel
theorem dX6_harm_13 : decode cX6_harm 13 = .ok (.iload_n 2, 1) := by decide +kernel
theorem dX6_harm_14 : decode cX6_harm 14 = .ok (.iconst 1, 1) := by decide +kernel
theorem dX6_harm_15 : decode cX6_harm 15 = .ok (.iconst 1, 1) := by decide +kernel
theorem dX6_harm_16 : decode cX6_harm 16 = .ok (.aload_n 0, 1) := by decide +kernel
theorem dX6_harm_17 : decode cX6_harm 17 = .ok (.getfield 7, 3) := by decide +kernel
theorem dX6_harm_20 : decode cX6_harm 20 = .ok (.iconst 0, 1) := by decide +kernel
theorem dX6_harm_21 : decode cX6_harm 21 = .ok (.iaload, 1) := by decide +kernel
theorem dX6_harm_22 : decode cX6_harm 22 = .ok (.ishl, 1) := by decide +kernel
theorem dX6_harm_23 : decode cX6_harm 23 = .ok (.iconst 1, 1) := by decide +kernel
theorem dX6_harm_24 : decode cX6_harm 24 = .ok (.isub, 1) := by decide +kernel
theorem dX6_harm_25 : decode cX6_harm 25 = .ok (.invokestatic 59, 3) := by decide +kernel
theorem dX6_harm_28 : decode cX6_harm 28 = .ok (.ifCond .eq 7, 3) := by decide +kernel
theorem dX6_harm_31 : decode cX6_harm 31 = .ok (.iconst 0, 1) := by decide +kernel
theorem dX6_harm_32 : decode cX6_harm 32 = .ok (.goto 4, 3) := by decide +kernel
theorem dX6_harm_35 : decode cX6_harm 35 = .ok (.iconst 2, 1) := by decide +kernel
theorem dX6_harm_36 : decode cX6_harm 36 = .ok (.putfield 49, 3) := by decide +kernel
theorem dX6_harm_39 : decode cX6_harm 39 = .ok (.aload_n 0, 1) := by decide +kernel
theorem dX6_harm_40 : decode cX6_harm 40 = .ok (.getfield 49, 3) := by decide +kernel
theorem dX6_harm_43 : decode cX6_harm 43 = .ok (.ifCond .le 5, 3) := by decide +kernel
theorem dX6_harm_46 : decode cX6_harm 46 = .ok (.iconst 0, 1) := by decide +kernel
theorem dX6_harm_47 : decode cX6_harm 47 = .ok (.ireturn, 1) := by decide +kernel
theorem dX6_harm_48 : decode cX6_harm 48 = .ok (.aload_n 0, 1) := by decide +kernel
theorem dX6_harm_49 : decode cX6_harm 49 = .ok (.aload_n 0, 1) := by decide +kernel
theorem dX6_harm_50 : decode cX6_harm 50 = .ok (.getfield 7, 3) := by decide +kernel
theorem dX6_harm_53 : decode cX6_harm 53 = .ok (.invokevirtual 63, 3) := by decide +kernel
theorem dX6_harm_56 : decode cX6_harm 56 = .ok (.aload_n 0, 1) := by decide +kernel
theorem dX6_harm_57 : decode cX6_harm 57 = .ok (.iload_n 1, 1) := by decide +kernel
theorem dX6_harm_58 : decode cX6_harm 58 = .ok (.iconst 3, 1) := by decide +kernel
theorem dX6_harm_59 : decode cX6_harm 59 = .ok (.invokevirtual 223, 3) := by decide +kernel
theorem dX6_harm_62 : decode cX6_harm 62 = .ok (.istore_n 3, 1) := by decide +kernel
theorem dX6_harm_63 : decode cX6_harm 63 = .ok (.iconst 0, 1) := by decide +kernel
theorem dX6_harm_64 : decode cX6_harm 64 = .ok (.istore 4, 2) := by decide +kernel
theorem dX6_harm_66 : decode cX6_harm 66 = .ok (.iload 4, 2) := by decide +kernel
theorem dX6_harm_68 : decode cX6_harm 68 = .ok (.aload_n 0, 1) := by decide +kernel
theorem dX6_harm_69 : decode cX6_harm 69 = .ok (.invokevirtual 169, 3) := by decide +kernel
theorem dX6_harm_72 : decode cX6_harm 72 = .ok (.if_icmp .ge 35, 3) := by decide +kernel
theorem dX6_harm_75 : decode cX6_harm 75 = .ok (.aload_n 0, 1) := by decide +kernel
theorem dX6_harm_76 : decode cX6_harm 76 = .ok (.iload 4, 2) := by decide +kernel
theorem dX6_harm_78 : decode cX6_harm 78 = .ok (.iload_n 1, 1) := by decide +kernel
theorem dX6_harm_79 : decode cX6_harm 79 = .ok (.invokevirtual 182, 3) := by decide +kernel
theorem dX6_harm_82 : decode cX6_harm 82 = .ok (.ifCond .eq 19, 3) := by decide +kernel
theorem dX6_harm_85 : decode cX6_harm 85 = .ok (.aload_n 0, 1) := by decide +kernel
theorem dX6_harm_86 : decode cX6_harm 86 = .ok (.iload 4, 2) := by decide +kernel
theorem dX6_harm_88 : decode cX6_harm 88 = .ok (.iload_n 1, 1) := by decide +kernel
theorem dX6_harm_89 : decode cX6_harm 89 = .ok (.aload_n 0, 1) := by decide +kernel
theorem dX6_harm_90 : decode cX6_harm 90 = .ok (.iload 4, 2) := by decide +kernel
theorem dX6_harm_92 : decode cX6_harm 92 = .ok (.iload_n 1, 1) := by decide +kernel
theorem dX6_harm_93 : decode cX6_harm 93 = .ok (.invokevirtual 182, 3) := by decide +kernel
theorem dX6_harm_96 : decode cX6_harm 96 = .ok (.iload_n 2, 1) := by decide +kernel
theorem dX6_harm_97 : decode cX6_harm 97 = .ok (.ior, 1) := by decide +kernel
theorem dX6_harm_98 : decode cX6_harm 98 = .ok (.invokevirtual 172, 3) := by decide +kernel
theorem dX6_harm_101 : decode cX6_harm 101 = .ok (.iinc 4 1, 3) := by decide +kernel
theorem dX6_harm_104 : decode cX6_harm 104 = .ok (.goto (-38), 3) := by decide +kernel
theorem dX6_harm_107 : decode cX6_harm 107 = .ok (.iload_n 3, 1) := by decide +kernel
theorem dX6_harm_108 : decode cX6_harm 108 = .ok (.ireturn, 1) := by decide +kernel
theorem dX6_repair_0 : decode cX6_repair 0 = .ok (.aload_n 0, 1) := by decide +kernel
theorem dX6_repair_1 : decode cX6_repair 1 = .ok (.iload_n 1, 1) := by decide +kernel
theorem dX6_repair_2 : decode cX6_repair 2 = .ok (.iload_n 2, 1) := by decide +kernel
theorem dX6_repair_3 : decode cX6_repair 3 = .ok (.invokevirtual 260, 3) := by decide +kernel
theorem dX6_repair_6 : decode cX6_repair 6 = .ok (.ifCond .ne 5, 3) := by decide +kernel
theorem dX6_repair_9 : decode cX6_repair 9 = .ok (.iconst 0, 1) := by decide +kernel
theorem dX6_repair_10 : decode cX6_repair 10 = .ok (.ireturn, 1) := by decide +kernel
theorem dX6_repair_11 : decode cX6_repair 11 = .ok (.aload_n 0, 1) := by decide +kernel
theorem dX6_repair_12 : decode cX6_repair 12 = .ok (.iload_n 1, 1) := by decide +kernel
theorem dX6_repair_13 : decode cX6_repair 13 = .ok (.iload_n 2, 1) := by decide +kernel
theorem dX6_repair_14 : decode cX6_repair 14 = .ok (.invokevirtual 182, 3) := by decide +kernel
theorem dX6_repair_17 : decode cX6_repair 17 = .ok (.istore_n 3, 1) := by decide +kernel
theorem dX6_repair_18 : decode cX6_repair 18 = .ok (.aload_n 0, 1) := by decide +kernel
theorem dX6_repair_19 : decode cX6_repair 19 = .ok (.iload_n 1, 1) := by decide +kernel
theorem dX6_repair_20 : decode cX6_repair 20 = .ok (.iload_n 2, 1) := by decide +kernel
theorem dX6_repair_21 : decode cX6_repair 21 = .ok (.invokevirtual 285, 3) := by decide +kernel
theorem dX6_repair_24 : decode cX6_repair 24 = .ok (.istore 4, 2) := by decide +kernel
theorem dX6_repair_26 : decode cX6_repair 26 = .ok (.iload_n 3, 1) := by decide +kernel
theorem dX6_repair_27 : decode cX6_repair 27 = .ok (.ifCond .ne 6, 3) := by decide +kernel
theorem dX6_repair_30 : decode cX6_repair 30 = .ok (.bipush (-11), 2) := by decide +kernel
theorem dX6_repair_32 : decode cX6_repair 32 = .ok (.ireturn, 1) := by decide +kernel
theorem dX6_repair_33 : decode cX6_repair 33 = .ok (.iload_n 3, 1) := by decide +kernel
theorem dX6_repair_34 : decode cX6_repair 34 = .ok (.invokestatic 214, 3) := by decide +kernel
theorem dX6_repair_37 : decode cX6_repair 37 = .ok (.ifCond .ne 6, 3) := by decide +kernel
theorem dX6_repair_40 : decode cX6_repair 40 = .ok (.bipush (-13), 2) := by decide +kernel
theorem dX6_repair_42 : decode cX6_repair 42 = .ok (.ireturn, 1) := by decide +kernel
theorem dX6_repair_43 : decode cX6_repair 43 = .ok (.iload 4, 2) := by decide +kernel
theorem dX6_repair_45 : decode cX6_repair 45 = .ok (.ifCond .ne 6, 3) := by decide +kernel
theorem dX6_repair_48 : decode cX6_repair 48 = .ok (.bipush (-14), 2) := by decide +kernel
theorem dX6_repair_50 : decode cX6_repair 50 = .ok (.ireturn, 1) := by decide +kernel
theorem dX6_repair_51 : decode cX6_repair 51 = .ok (.aload_n 0, 1) := by decide +kernel
theorem dX6_repair_52 : decode cX6_repair 52 = .ok (.aload_n 0, 1) := by decide +kernel
theorem dX6_repair_53 : decode cX6_repair 53 = .ok (.getfield 7, 3) := by decide +kernel
theorem dX6_repair_56 : decode cX6_repair 56 = .ok (.invokevirtual 63, 3) := by decide +kernel
theorem dX6_repair_59 : decode cX6_repair 59 = .ok (.aload_n 0, 1) := by decide +kernel
theorem dX6_repair_60 : decode cX6_repair 60 = .ok (.iload_n 1, 1) := by decide +kernel
theorem dX6_repair_61 : decode cX6_repair 61 = .ok (.iload_n 2, 1) := by decide +kernel
theorem dX6_repair_62 : decode cX6_repair 62 = .ok (.invokevirtual 291, 3) := by decide +kernel
theorem dX6_repair_65 : decode cX6_repair 65 = .ok (.istore 5, 2) := by decide +kernel
theorem dX6_repair_67 : decode cX6_repair 67 = .ok (.aload_n 0, 1) := by decide +kernel
theorem dX6_repair_68 : decode cX6_repair 68 = .ok (.iload_n 1, 1) := by decide +kernel
theorem dX6_repair_69 : decode cX6_repair 69 = .ok (.iload_n 2, 1) := by decide +kernel
theorem dX6_repair_70 : decode cX6_repair 70 = .ok (.iload 5, 2) := by decide +kernel
theorem dX6_repair_72 : decode cX6_repair 72 = .ok (.invokevirtual 172, 3) := by decide +kernel
theorem dX6_repair_75 : decode cX6_repair 75 = .ok (.aload_n 0, 1) := by decide +kernel
theorem dX6_repair_76 : decode cX6_repair 76 = .ok (.getfield 7, 3) := by decide +kernel
theorem dX6_repair_79 : decode cX6_repair 79 = .ok (.iconst 3, 1) := by decide +kernel
theorem dX6_repair_80 : decode cX6_repair 80 = .ok (.dup2, 1) := by decide +kernel
theorem dX6_repair_81 : decode cX6_repair 81 = .ok (.iaload, 1) := by decide +kernel
theorem dX6_repair_82 : decode cX6_repair 82 = .ok (.iconst 1, 1) := by decide +kernel
theorem dX6_repair_83 : decode cX6_repair 83 = .ok (.iadd, 1) := by decide +kernel
theorem dX6_repair_84 : decode cX6_repair 84 = .ok (.iastore, 1) := by decide +kernel
theorem dX6_repair_85 : decode cX6_repair 85 = .ok (.iload 4, 2) := by decide +kernel
theorem dX6_repair_87 : decode cX6_repair 87 = .ok (.invokestatic 229, 3) := by decide +kernel
theorem dX6_repair_90 : decode cX6_repair 90 = .ok (.ireturn, 1) := by decide +kernel
theorem dX6_wave_0 : decode cX6_wave 0 = .ok (.aload_n 0, 1) := by decide +kernel
theorem dX6_wave_1 : decode cX6_wave 1 = .ok (.iconst 0, 1) := by decide +kernel
theorem dX6_wave_2 : decode cX6_wave 2 = .ok (.putfield 49, 3) := by decide +kernel
theorem dX6_wave_5 : decode cX6_wave 5 = .ok (.aload_n 0, 1) := by decide +kernel
theorem dX6_wave_6 : decode cX6_wave 6 = .ok (.aload_n 0, 1) := by decide +kernel
theorem dX6_wave_7 : decode cX6_wave 7 = .ok (.getfield 7, 3) := by decide +kernel
theorem dX6_wave_10 : decode cX6_wave 10 = .ok (.invokevirtual 63, 3) := by decide +kernel
theorem dX6_wave_13 : decode cX6_wave 13 = .ok (.aload_n 0, 1) := by decide +kernel
theorem dX6_wave_14 : decode cX6_wave 14 = .ok (.invokevirtual 297, 3) := by decide +kernel
theorem dX6_wave_17 : decode cX6_wave 17 = .ok (.ireturn, 1) := by decide +kernel
theorem dX6_spread_0 : decode cX6_spread 0 = .ok (.aload_n 0, 1) := by decide +kernel
theorem dX6_spread_1 : decode cX6_spread 1 = .ok (.iconst 0, 1) := by decide +kernel
theorem dX6_spread_2 : decode cX6_spread 2 = .ok (.putfield 49, 3) := by decide +kernel
theorem dX6_spread_5 : decode cX6_spread 5 = .ok (.aload_n 0, 1) := by decide +kernel
theorem dX6_spread_6 : decode cX6_spread 6 = .ok (.aload_n 0, 1) := by decide +kernel
theorem dX6_spread_7 : decode cX6_spread 7 = .ok (.getfield 7, 3) := by decide +kernel
theorem dX6_spread_10 : decode cX6_spread 10 = .ok (.invokevirtual 63, 3) := by decide +kernel
theorem dX6_spread_13 : decode cX6_spread 13 = .ok (.aload_n 0, 1) := by decide +kernel
theorem dX6_spread_14 : decode cX6_spread 14 = .ok (.invokevirtual 315, 3) := by decide +kernel
theorem dX6_spread_17 : decode cX6_spread 17 = .ok (.ireturn, 1) := by decide +kernel
theorem dX6_join_0 : decode cX6_join 0 = .ok (.aload_n 0, 1) := by decide +kernel
theorem dX6_join_1 : decode cX6_join 1 = .ok (.iload_n 1, 1) := by decide +kernel
theorem dX6_join_2 : decode cX6_join 2 = .ok (.iconst 1, 1) := by decide +kernel
theorem dX6_join_3 : decode cX6_join 3 = .ok (.bipush 20, 2) := by decide +kernel
theorem dX6_join_5 : decode cX6_join 5 = .ok (.invokestatic 59, 3) := by decide +kernel
theorem dX6_join_8 : decode cX6_join 8 = .ok (.ifCond .eq 7, 3) := by decide +kernel
theorem dX6_join_11 : decode cX6_join 11 = .ok (.iconst 0, 1) := by decide +kernel
theorem dX6_join_12 : decode cX6_join 12 = .ok (.goto 4, 3) := by decide +kernel
theorem dX6_join_15 : decode cX6_join 15 = .ok (.iconst 1, 1) := by decide +kernel
theorem dX6_join_16 : decode cX6_join 16 = .ok (.putfield 49, 3) := by decide +kernel
theorem dX6_join_19 : decode cX6_join 19 = .ok (.aload_n 0, 1) := by decide +kernel
theorem dX6_join_20 : decode cX6_join 20 = .ok (.getfield 49, 3) := by decide +kernel
theorem dX6_join_23 : decode cX6_join 23 = .ok (.ifCond .le 5, 3) := by decide +kernel
theorem dX6_join_26 : decode cX6_join 26 = .ok (.iconst 0, 1) := by decide +kernel
theorem dX6_join_27 : decode cX6_join 27 = .ok (.ireturn, 1) := by decide +kernel
theorem dX6_join_28 : decode cX6_join 28 = .ok (.aload_n 0, 1) := by decide +kernel
theorem dX6_join_29 : decode cX6_join 29 = .ok (.invokevirtual 67, 3) := by decide +kernel
theorem dX6_join_32 : decode cX6_join 32 = .ok (.istore_n 2, 1) := by decide +kernel
theorem dX6_join_33 : decode cX6_join 33 = .ok (.iload_n 2, 1) := by decide +kernel
theorem dX6_join_34 : decode cX6_join 34 = .ok (.bipush 10, 2) := by decide +kernel
theorem dX6_join_36 : decode cX6_join 36 = .ok (.if_icmp .ne 6, 3) := by decide +kernel
theorem dX6_join_39 : decode cX6_join 39 = .ok (.bipush (-15), 2) := by decide +kernel
theorem dX6_join_41 : decode cX6_join 41 = .ok (.ireturn, 1) := by decide +kernel
theorem dX6_join_42 : decode cX6_join 42 = .ok (.aload_n 0, 1) := by decide +kernel
theorem dX6_join_43 : decode cX6_join 43 = .ok (.aload_n 0, 1) := by decide +kernel
theorem dX6_join_44 : decode cX6_join 44 = .ok (.getfield 7, 3) := by decide +kernel
theorem dX6_join_47 : decode cX6_join 47 = .ok (.invokevirtual 63, 3) := by decide +kernel
theorem dX6_join_50 : decode cX6_join 50 = .ok (.iconst 0, 1) := by decide +kernel
theorem dX6_join_51 : decode cX6_join 51 = .ok (.istore_n 3, 1) := by decide +kernel
theorem dX6_join_52 : decode cX6_join 52 = .ok (.iload_n 3, 1) := by decide +kernel
theorem dX6_join_53 : decode cX6_join 53 = .ok (.bipush 12, 2) := by decide +kernel
theorem dX6_join_55 : decode cX6_join 55 = .ok (.if_icmp .ge 16, 3) := by decide +kernel
theorem dX6_join_58 : decode cX6_join 58 = .ok (.aload_n 0, 1) := by decide +kernel
theorem dX6_join_59 : decode cX6_join 59 = .ok (.iload_n 2, 1) := by decide +kernel
theorem dX6_join_60 : decode cX6_join 60 = .ok (.iload_n 3, 1) := by decide +kernel
theorem dX6_join_61 : decode cX6_join 61 = .ok (.iconst 0, 1) := by decide +kernel
theorem dX6_join_62 : decode cX6_join 62 = .ok (.invokevirtual 45, 3) := by decide +kernel
theorem dX6_join_65 : decode cX6_join 65 = .ok (.iinc 3 1, 3) := by decide +kernel
theorem dX6_join_68 : decode cX6_join 68 = .ok (.goto (-16), 3) := by decide +kernel
theorem dX6_join_71 : decode cX6_join 71 = .ok (.aload_n 0, 1) := by decide +kernel
theorem dX6_join_72 : decode cX6_join 72 = .ok (.iload_n 2, 1) := by decide +kernel
theorem dX6_join_73 : decode cX6_join 73 = .ok (.iconst 0, 1) := by decide +kernel
theorem dX6_join_74 : decode cX6_join 74 = .ok (.iload_n 1, 1) := by decide +kernel
theorem dX6_join_75 : decode cX6_join 75 = .ok (.invokevirtual 45, 3) := by decide +kernel
theorem dX6_join_78 : decode cX6_join 78 = .ok (.iconst 0, 1) := by decide +kernel
theorem dX6_join_79 : decode cX6_join 79 = .ok (.istore_n 3, 1) := by decide +kernel
theorem dX6_join_80 : decode cX6_join 80 = .ok (.iload_n 3, 1) := by decide +kernel
theorem dX6_join_81 : decode cX6_join 81 = .ok (.aload_n 0, 1) := by decide +kernel
theorem dX6_join_82 : decode cX6_join 82 = .ok (.invokevirtual 169, 3) := by decide +kernel
theorem dX6_join_85 : decode cX6_join 85 = .ok (.if_icmp .ge 16, 3) := by decide +kernel
theorem dX6_join_88 : decode cX6_join 88 = .ok (.aload_n 0, 1) := by decide +kernel
theorem dX6_join_89 : decode cX6_join 89 = .ok (.iload_n 3, 1) := by decide +kernel
theorem dX6_join_90 : decode cX6_join 90 = .ok (.iload_n 2, 1) := by decide +kernel
theorem dX6_join_91 : decode cX6_join 91 = .ok (.iconst 0, 1) := by decide +kernel
theorem dX6_join_92 : decode cX6_join 92 = .ok (.invokevirtual 172, 3) := by decide +kernel
theorem dX6_join_95 : decode cX6_join 95 = .ok (.iinc 3 1, 3) := by decide +kernel
theorem dX6_join_98 : decode cX6_join 98 = .ok (.goto (-18), 3) := by decide +kernel
theorem dX6_join_101 : decode cX6_join 101 = .ok (.aload_n 0, 1) := by decide +kernel
theorem dX6_join_102 : decode cX6_join 102 = .ok (.getfield 7, 3) := by decide +kernel
theorem dX6_join_105 : decode cX6_join 105 = .ok (.iconst 1, 1) := by decide +kernel
theorem dX6_join_106 : decode cX6_join 106 = .ok (.dup2, 1) := by decide +kernel
theorem dX6_join_107 : decode cX6_join 107 = .ok (.iaload, 1) := by decide +kernel
theorem dX6_join_108 : decode cX6_join 108 = .ok (.iconst 1, 1) := by decide +kernel
theorem dX6_join_109 : decode cX6_join 109 = .ok (.iadd, 1) := by decide +kernel
theorem dX6_join_110 : decode cX6_join 110 = .ok (.iastore, 1) := by decide +kernel
theorem dX6_join_111 : decode cX6_join 111 = .ok (.iload_n 2, 1) := by decide +kernel
theorem dX6_join_112 : decode cX6_join 112 = .ok (.ireturn, 1) := by decide +kernel
theorem dX6_meet_0 : decode cX6_meet 0 = .ok (.aload_n 0, 1) := by decide +kernel
theorem dX6_meet_1 : decode cX6_meet 1 = .ok (.aload_n 0, 1) := by decide +kernel
theorem dX6_meet_2 : decode cX6_meet 2 = .ok (.iload_n 1, 1) := by decide +kernel
theorem dX6_meet_3 : decode cX6_meet 3 = .ok (.invokevirtual 251, 3) := by decide +kernel
theorem dX6_meet_6 : decode cX6_meet 6 = .ok (.ifCond .eq 11, 3) := by decide +kernel
theorem dX6_meet_9 : decode cX6_meet 9 = .ok (.aload_n 0, 1) := by decide +kernel
theorem dX6_meet_10 : decode cX6_meet 10 = .ok (.iload_n 2, 1) := by decide +kernel
theorem dX6_meet_11 : decode cX6_meet 11 = .ok (.invokevirtual 251, 3) := by decide +kernel
theorem dX6_meet_14 : decode cX6_meet 14 = .ok (.ifCond .ne 7, 3) := by decide +kernel
theorem dX6_meet_17 : decode cX6_meet 17 = .ok (.iconst 1, 1) := by decide +kernel
theorem dX6_meet_18 : decode cX6_meet 18 = .ok (.goto 13, 3) := by decide +kernel
theorem dX6_meet_21 : decode cX6_meet 21 = .ok (.iload_n 1, 1) := by decide +kernel
theorem dX6_meet_22 : decode cX6_meet 22 = .ok (.iload_n 2, 1) := by decide +kernel
theorem dX6_meet_23 : decode cX6_meet 23 = .ok (.if_icmp .ne 7, 3) := by decide +kernel
theorem dX6_meet_26 : decode cX6_meet 26 = .ok (.iconst 2, 1) := by decide +kernel
theorem dX6_meet_27 : decode cX6_meet 27 = .ok (.goto 4, 3) := by decide +kernel
theorem dX6_meet_30 : decode cX6_meet 30 = .ok (.iconst 0, 1) := by decide +kernel
theorem dX6_meet_31 : decode cX6_meet 31 = .ok (.putfield 49, 3) := by decide +kernel
theorem dX6_meet_34 : decode cX6_meet 34 = .ok (.aload_n 0, 1) := by decide +kernel
theorem dX6_meet_35 : decode cX6_meet 35 = .ok (.getfield 49, 3) := by decide +kernel
theorem dX6_meet_38 : decode cX6_meet 38 = .ok (.ifCond .le 5, 3) := by decide +kernel
theorem dX6_meet_41 : decode cX6_meet 41 = .ok (.iconst 0, 1) := by decide +kernel
theorem dX6_meet_42 : decode cX6_meet 42 = .ok (.ireturn, 1) := by decide +kernel
theorem dX6_meet_43 : decode cX6_meet 43 = .ok (.aload_n 0, 1) := by decide +kernel
theorem dX6_meet_44 : decode cX6_meet 44 = .ok (.iload_n 1, 1) := by decide +kernel
theorem dX6_meet_45 : decode cX6_meet 45 = .ok (.iload_n 2, 1) := by decide +kernel
theorem dX6_meet_46 : decode cX6_meet 46 = .ok (.invokevirtual 161, 3) := by decide +kernel
theorem dX6_meet_49 : decode cX6_meet 49 = .ok (.ifCond .eq 6, 3) := by decide +kernel
theorem dX6_meet_52 : decode cX6_meet 52 = .ok (.bipush (-16), 2) := by decide +kernel
theorem dX6_meet_54 : decode cX6_meet 54 = .ok (.ireturn, 1) := by decide +kernel
theorem dX6_meet_55 : decode cX6_meet 55 = .ok (.aload_n 0, 1) := by decide +kernel
theorem dX6_meet_56 : decode cX6_meet 56 = .ok (.aload_n 0, 1) := by decide +kernel
theorem dX6_meet_57 : decode cX6_meet 57 = .ok (.getfield 7, 3) := by decide +kernel
theorem dX6_meet_60 : decode cX6_meet 60 = .ok (.invokevirtual 63, 3) := by decide +kernel
theorem dX6_meet_63 : decode cX6_meet 63 = .ok (.aload_n 0, 1) := by decide +kernel
theorem dX6_meet_64 : decode cX6_meet 64 = .ok (.iload_n 1, 1) := by decide +kernel
theorem dX6_meet_65 : decode cX6_meet 65 = .ok (.iload_n 2, 1) := by decide +kernel
theorem dX6_meet_66 : decode cX6_meet 66 = .ok (.invokevirtual 165, 3) := by decide +kernel
theorem dX6_meet_69 : decode cX6_meet 69 = .ok (.aload_n 0, 1) := by decide +kernel
theorem dX6_meet_70 : decode cX6_meet 70 = .ok (.invokevirtual 248, 3) := by decide +kernel
theorem dX6_meet_73 : decode cX6_meet 73 = .ok (.ireturn, 1) := by decide +kernel
theorem dX6_without_0 : decode cX6_without 0 = .ok (.iconst 1, 1) := by decide +kernel
theorem dX6_without_1 : decode cX6_without 1 = .ok (.iload_n 1, 1) := by decide +kernel
theorem dX6_without_2 : decode cX6_without 2 = .ok (.ishl, 1) := by decide +kernel
theorem dX6_without_3 : decode cX6_without 3 = .ok (.iconst 1, 1) := by decide +kernel
theorem dX6_without_4 : decode cX6_without 4 = .ok (.isub, 1) := by decide +kernel
theorem dX6_without_5 : decode cX6_without 5 = .ok (.istore_n 2, 1) := by decide +kernel
theorem dX6_without_6 : decode cX6_without 6 = .ok (.iload_n 0, 1) := by decide +kernel
theorem dX6_without_7 : decode cX6_without 7 = .ok (.iload_n 2, 1) := by decide +kernel
theorem dX6_without_8 : decode cX6_without 8 = .ok (.iand, 1) := by decide +kernel
theorem dX6_without_9 : decode cX6_without 9 = .ok (.iload_n 0, 1) := by decide +kernel
theorem dX6_without_10 : decode cX6_without 10 = .ok (.iconst 1, 1) := by decide +kernel
theorem dX6_without_11 : decode cX6_without 11 = .ok (.ishr, 1) := by decide +kernel
theorem dX6_without_12 : decode cX6_without 12 = .ok (.iload_n 2, 1) := by decide +kernel
theorem dX6_without_13 : decode cX6_without 13 = .ok (.iconst (-1), 1) := by decide +kernel
theorem dX6_without_14 : decode cX6_without 14 = .ok (.ixor, 1) := by decide +kernel
theorem dX6_without_15 : decode cX6_without 15 = .ok (.iand, 1) := by decide +kernel
theorem dX6_without_16 : decode cX6_without 16 = .ok (.ior, 1) := by decide +kernel
theorem dX6_without_17 : decode cX6_without 17 = .ok (.ireturn, 1) := by decide +kernel
theorem dX6_leave_0 : decode cX6_leave 0 = .ok (.aload_n 0, 1) := by decide +kernel
theorem dX6_leave_1 : decode cX6_leave 1 = .ok (.aload_n 0, 1) := by decide +kernel
theorem dX6_leave_2 : decode cX6_leave 2 = .ok (.iload_n 1, 1) := by decide +kernel
theorem dX6_leave_3 : decode cX6_leave 3 = .ok (.invokevirtual 251, 3) := by decide +kernel
theorem dX6_leave_6 : decode cX6_leave 6 = .ok (.ifCond .eq 7, 3) := by decide +kernel
theorem dX6_leave_9 : decode cX6_leave 9 = .ok (.iconst 0, 1) := by decide +kernel
theorem dX6_leave_10 : decode cX6_leave 10 = .ok (.goto 4, 3) := by decide +kernel
theorem dX6_leave_13 : decode cX6_leave 13 = .ok (.iconst 1, 1) := by decide +kernel
theorem dX6_leave_14 : decode cX6_leave 14 = .ok (.putfield 49, 3) := by decide +kernel
theorem dX6_leave_17 : decode cX6_leave 17 = .ok (.aload_n 0, 1) := by decide +kernel
theorem dX6_leave_18 : decode cX6_leave 18 = .ok (.getfield 49, 3) := by decide +kernel
theorem dX6_leave_21 : decode cX6_leave 21 = .ok (.ifCond .le 5, 3) := by decide +kernel
theorem dX6_leave_24 : decode cX6_leave 24 = .ok (.iconst 0, 1) := by decide +kernel
theorem dX6_leave_25 : decode cX6_leave 25 = .ok (.ireturn, 1) := by decide +kernel
theorem dX6_leave_26 : decode cX6_leave 26 = .ok (.aload_n 0, 1) := by decide +kernel
theorem dX6_leave_27 : decode cX6_leave 27 = .ok (.invokevirtual 67, 3) := by decide +kernel
theorem dX6_leave_30 : decode cX6_leave 30 = .ok (.iconst 2, 1) := by decide +kernel
theorem dX6_leave_31 : decode cX6_leave 31 = .ok (.if_icmp .ne 6, 3) := by decide +kernel
theorem dX6_leave_34 : decode cX6_leave 34 = .ok (.bipush (-17), 2) := by decide +kernel
theorem dX6_leave_36 : decode cX6_leave 36 = .ok (.ireturn, 1) := by decide +kernel
theorem dX6_leave_37 : decode cX6_leave 37 = .ok (.aload_n 0, 1) := by decide +kernel
theorem dX6_leave_38 : decode cX6_leave 38 = .ok (.aload_n 0, 1) := by decide +kernel
theorem dX6_leave_39 : decode cX6_leave 39 = .ok (.getfield 7, 3) := by decide +kernel
theorem dX6_leave_42 : decode cX6_leave 42 = .ok (.invokevirtual 63, 3) := by decide +kernel
theorem dX6_leave_45 : decode cX6_leave 45 = .ok (.aload_n 0, 1) := by decide +kernel
theorem dX6_leave_46 : decode cX6_leave 46 = .ok (.iload_n 1, 1) := by decide +kernel
theorem dX6_leave_47 : decode cX6_leave 47 = .ok (.iconst 0, 1) := by decide +kernel
theorem dX6_leave_48 : decode cX6_leave 48 = .ok (.invokevirtual 223, 3) := by decide +kernel
theorem dX6_leave_51 : decode cX6_leave 51 = .ok (.istore_n 2, 1) := by decide +kernel
theorem dX6_leave_52 : decode cX6_leave 52 = .ok (.iconst 5, 1) := by decide +kernel
theorem dX6_leave_53 : decode cX6_leave 53 = .ok (.bipush 12, 2) := by decide +kernel
theorem dX6_leave_55 : decode cX6_leave 55 = .ok (.iload_n 1, 1) := by decide +kernel
theorem dX6_leave_56 : decode cX6_leave 56 = .ok (.imul, 1) := by decide +kernel
theorem dX6_leave_57 : decode cX6_leave 57 = .ok (.iadd, 1) := by decide +kernel
theorem dX6_leave_58 : decode cX6_leave 58 = .ok (.istore_n 3, 1) := by decide +kernel
theorem dX6_leave_59 : decode cX6_leave 59 = .ok (.iload_n 3, 1) := by decide +kernel
theorem dX6_leave_60 : decode cX6_leave 60 = .ok (.bipush 113, 2) := by decide +kernel
theorem dX6_leave_62 : decode cX6_leave 62 = .ok (.if_icmp .ge 24, 3) := by decide +kernel
theorem dX6_leave_65 : decode cX6_leave 65 = .ok (.aload_n 0, 1) := by decide +kernel
theorem dX6_leave_66 : decode cX6_leave 66 = .ok (.getfield 7, 3) := by decide +kernel
theorem dX6_leave_69 : decode cX6_leave 69 = .ok (.iload_n 3, 1) := by decide +kernel
theorem dX6_leave_70 : decode cX6_leave 70 = .ok (.aload_n 0, 1) := by decide +kernel
theorem dX6_leave_71 : decode cX6_leave 71 = .ok (.getfield 7, 3) := by decide +kernel
theorem dX6_leave_74 : decode cX6_leave 74 = .ok (.iload_n 3, 1) := by decide +kernel
theorem dX6_leave_75 : decode cX6_leave 75 = .ok (.bipush 12, 2) := by decide +kernel
theorem dX6_leave_77 : decode cX6_leave 77 = .ok (.iadd, 1) := by decide +kernel
theorem dX6_leave_78 : decode cX6_leave 78 = .ok (.iaload, 1) := by decide +kernel
theorem dX6_leave_79 : decode cX6_leave 79 = .ok (.iastore, 1) := by decide +kernel
theorem dX6_leave_80 : decode cX6_leave 80 = .ok (.iinc 3 1, 3) := by decide +kernel
theorem dX6_leave_83 : decode cX6_leave 83 = .ok (.goto (-24), 3) := by decide +kernel
theorem dX6_leave_86 : decode cX6_leave 86 = .ok (.iconst 0, 1) := by decide +kernel
theorem dX6_leave_87 : decode cX6_leave 87 = .ok (.istore_n 3, 1) := by decide +kernel
theorem dX6_leave_88 : decode cX6_leave 88 = .ok (.iload_n 3, 1) := by decide +kernel
theorem dX6_leave_89 : decode cX6_leave 89 = .ok (.aload_n 0, 1) := by decide +kernel
theorem dX6_leave_90 : decode cX6_leave 90 = .ok (.invokevirtual 169, 3) := by decide +kernel
theorem dX6_leave_93 : decode cX6_leave 93 = .ok (.if_icmp .ge 53, 3) := by decide +kernel
theorem dX6_leave_96 : decode cX6_leave 96 = .ok (.iload_n 1, 1) := by decide +kernel
theorem dX6_leave_97 : decode cX6_leave 97 = .ok (.istore 4, 2) := by decide +kernel
theorem dX6_leave_99 : decode cX6_leave 99 = .ok (.iload 4, 2) := by decide +kernel
theorem dX6_leave_101 : decode cX6_leave 101 = .ok (.bipush 9, 2) := by decide +kernel
theorem dX6_leave_103 : decode cX6_leave 103 = .ok (.if_icmp .ge 29, 3) := by decide +kernel
theorem dX6_leave_106 : decode cX6_leave 106 = .ok (.aload_n 0, 1) := by decide +kernel
theorem dX6_leave_107 : decode cX6_leave 107 = .ok (.iload_n 3, 1) := by decide +kernel
theorem dX6_leave_108 : decode cX6_leave 108 = .ok (.iload 4, 2) := by decide +kernel
theorem dX6_leave_110 : decode cX6_leave 110 = .ok (.iconst 1, 1) := by decide +kernel
theorem dX6_leave_111 : decode cX6_leave 111 = .ok (.iadd, 1) := by decide +kernel
theorem dX6_leave_112 : decode cX6_leave 112 = .ok (.invokevirtual 182, 3) := by decide +kernel
theorem dX6_leave_115 : decode cX6_leave 115 = .ok (.istore 5, 2) := by decide +kernel
theorem dX6_leave_117 : decode cX6_leave 117 = .ok (.aload_n 0, 1) := by decide +kernel
theorem dX6_leave_118 : decode cX6_leave 118 = .ok (.iload_n 3, 1) := by decide +kernel
theorem dX6_leave_119 : decode cX6_leave 119 = .ok (.iload 4, 2) := by decide +kernel
theorem dX6_leave_121 : decode cX6_leave 121 = .ok (.iload 5, 2) := by decide +kernel
theorem dX6_leave_123 : decode cX6_leave 123 = .ok (.invokevirtual 172, 3) := by decide +kernel
theorem dX6_leave_126 : decode cX6_leave 126 = .ok (.iinc 4 1, 3) := by decide +kernel
theorem dX6_leave_129 : decode cX6_leave 129 = .ok (.goto (-30), 3) := by decide +kernel
theorem dX6_leave_132 : decode cX6_leave 132 = .ok (.aload_n 0, 1) := by decide +kernel
theorem dX6_leave_133 : decode cX6_leave 133 = .ok (.iload_n 3, 1) := by decide +kernel
theorem dX6_leave_134 : decode cX6_leave 134 = .ok (.bipush 9, 2) := by decide +kernel
theorem dX6_leave_136 : decode cX6_leave 136 = .ok (.iconst 0, 1) := by decide +kernel
theorem dX6_leave_137 : decode cX6_leave 137 = .ok (.invokevirtual 172, 3) := by decide +kernel
theorem dX6_leave_140 : decode cX6_leave 140 = .ok (.iinc 3 1, 3) := by decide +kernel
theorem dX6_leave_143 : decode cX6_leave 143 = .ok (.goto (-55), 3) := by decide +kernel
theorem dX6_leave_146 : decode cX6_leave 146 = .ok (.aload_n 0, 1) := by decide +kernel
theorem dX6_leave_147 : decode cX6_leave 147 = .ok (.getfield 7, 3) := by decide +kernel
theorem dX6_leave_150 : decode cX6_leave 150 = .ok (.iconst 1, 1) := by decide +kernel
theorem dX6_leave_151 : decode cX6_leave 151 = .ok (.dup2, 1) := by decide +kernel
theorem dX6_leave_152 : decode cX6_leave 152 = .ok (.iaload, 1) := by decide +kernel
theorem dX6_leave_153 : decode cX6_leave 153 = .ok (.iconst 1, 1) := by decide +kernel
theorem dX6_leave_154 : decode cX6_leave 154 = .ok (.isub, 1) := by decide +kernel
theorem dX6_leave_155 : decode cX6_leave 155 = .ok (.iastore, 1) := by decide +kernel
theorem dX6_leave_156 : decode cX6_leave 156 = .ok (.iconst 0, 1) := by decide +kernel
theorem dX6_leave_157 : decode cX6_leave 157 = .ok (.istore_n 3, 1) := by decide +kernel
theorem dX6_leave_158 : decode cX6_leave 158 = .ok (.iload_n 3, 1) := by decide +kernel
theorem dX6_leave_159 : decode cX6_leave 159 = .ok (.aload_n 0, 1) := by decide +kernel
theorem dX6_leave_160 : decode cX6_leave 160 = .ok (.invokevirtual 67, 3) := by decide +kernel
theorem dX6_leave_163 : decode cX6_leave 163 = .ok (.if_icmp .ge 25, 3) := by decide +kernel
theorem dX6_leave_166 : decode cX6_leave 166 = .ok (.aload_n 0, 1) := by decide +kernel
theorem dX6_leave_167 : decode cX6_leave 167 = .ok (.iload_n 3, 1) := by decide +kernel
theorem dX6_leave_168 : decode cX6_leave 168 = .ok (.iconst 3, 1) := by decide +kernel
theorem dX6_leave_169 : decode cX6_leave 169 = .ok (.aload_n 0, 1) := by decide +kernel
theorem dX6_leave_170 : decode cX6_leave 170 = .ok (.iload_n 3, 1) := by decide +kernel
theorem dX6_leave_171 : decode cX6_leave 171 = .ok (.iconst 3, 1) := by decide +kernel
theorem dX6_leave_172 : decode cX6_leave 172 = .ok (.invokevirtual 206, 3) := by decide +kernel
theorem dX6_leave_175 : decode cX6_leave 175 = .ok (.iload_n 1, 1) := by decide +kernel
theorem dX6_leave_176 : decode cX6_leave 176 = .ok (.invokestatic 321, 3) := by decide +kernel
theorem dX6_leave_179 : decode cX6_leave 179 = .ok (.invokevirtual 45, 3) := by decide +kernel
theorem dX6_leave_182 : decode cX6_leave 182 = .ok (.iinc 3 1, 3) := by decide +kernel
theorem dX6_leave_185 : decode cX6_leave 185 = .ok (.goto (-27), 3) := by decide +kernel
theorem dX6_leave_188 : decode cX6_leave 188 = .ok (.iload_n 2, 1) := by decide +kernel
theorem dX6_leave_189 : decode cX6_leave 189 = .ok (.ireturn, 1) := by decide +kernel
theorem dX6_setPledge_0 : decode cX6_setPledge 0 = .ok (.aload_n 0, 1) := by decide +kernel
theorem dX6_setPledge_1 : decode cX6_setPledge 1 = .ok (.aload_n 0, 1) := by decide +kernel
theorem dX6_setPledge_2 : decode cX6_setPledge 2 = .ok (.iload_n 1, 1) := by decide +kernel
theorem dX6_setPledge_3 : decode cX6_setPledge 3 = .ok (.invokevirtual 257, 3) := by decide +kernel
theorem dX6_setPledge_6 : decode cX6_setPledge 6 = .ok (.ifCond .ne 7, 3) := by decide +kernel
theorem dX6_setPledge_9 : decode cX6_setPledge 9 = .ok (.iconst 1, 1) := by decide +kernel
theorem dX6_setPledge_10 : decode cX6_setPledge 10 = .ok (.goto 18, 3) := by decide +kernel
theorem dX6_setPledge_13 : decode cX6_setPledge 13 = .ok (.iload_n 2, 1) := by decide +kernel
theorem dX6_setPledge_14 : decode cX6_setPledge 14 = .ok (.iconst 1, 1) := by decide +kernel
theorem dX6_setPledge_15 : decode cX6_setPledge 15 = .ok (.bipush 10, 2) := by decide +kernel
theorem dX6_setPledge_17 : decode cX6_setPledge 17 = .ok (.invokestatic 59, 3) := by decide +kernel
theorem dX6_setPledge_20 : decode cX6_setPledge 20 = .ok (.ifCond .eq 7, 3) := by decide +kernel
theorem dX6_setPledge_23 : decode cX6_setPledge 23 = .ok (.iconst 0, 1) := by decide +kernel
theorem dX6_setPledge_24 : decode cX6_setPledge 24 = .ok (.goto 4, 3) := by decide +kernel
theorem dX6_setPledge_27 : decode cX6_setPledge 27 = .ok (.iconst 2, 1) := by decide +kernel
theorem dX6_setPledge_28 : decode cX6_setPledge 28 = .ok (.putfield 49, 3) := by decide +kernel
theorem dX6_setPledge_31 : decode cX6_setPledge 31 = .ok (.aload_n 0, 1) := by decide +kernel
theorem dX6_setPledge_32 : decode cX6_setPledge 32 = .ok (.getfield 49, 3) := by decide +kernel
theorem dX6_setPledge_35 : decode cX6_setPledge 35 = .ok (.ifCond .le 5, 3) := by decide +kernel
theorem dX6_setPledge_38 : decode cX6_setPledge 38 = .ok (.iconst 0, 1) := by decide +kernel
theorem dX6_setPledge_39 : decode cX6_setPledge 39 = .ok (.ireturn, 1) := by decide +kernel
theorem dX6_setPledge_40 : decode cX6_setPledge 40 = .ok (.aload_n 0, 1) := by decide +kernel
theorem dX6_setPledge_41 : decode cX6_setPledge 41 = .ok (.aload_n 0, 1) := by decide +kernel
theorem dX6_setPledge_42 : decode cX6_setPledge 42 = .ok (.getfield 7, 3) := by decide +kernel
theorem dX6_setPledge_45 : decode cX6_setPledge 45 = .ok (.invokevirtual 63, 3) := by decide +kernel
theorem dX6_setPledge_48 : decode cX6_setPledge 48 = .ok (.aload_n 0, 1) := by decide +kernel
theorem dX6_setPledge_49 : decode cX6_setPledge 49 = .ok (.iload_n 1, 1) := by decide +kernel
theorem dX6_setPledge_50 : decode cX6_setPledge 50 = .ok (.invokevirtual 232, 3) := by decide +kernel
theorem dX6_setPledge_53 : decode cX6_setPledge 53 = .ok (.istore_n 3, 1) := by decide +kernel
theorem dX6_setPledge_54 : decode cX6_setPledge 54 = .ok (.aload_n 0, 1) := by decide +kernel
theorem dX6_setPledge_55 : decode cX6_setPledge 55 = .ok (.getfield 7, 3) := by decide +kernel
theorem dX6_setPledge_58 : decode cX6_setPledge 58 = .ok (.bipush 125, 2) := by decide +kernel
theorem dX6_setPledge_60 : decode cX6_setPledge 60 = .ok (.bipush 19, 2) := by decide +kernel
theorem dX6_setPledge_62 : decode cX6_setPledge 62 = .ok (.iload_n 1, 1) := by decide +kernel
theorem dX6_setPledge_63 : decode cX6_setPledge 63 = .ok (.imul, 1) := by decide +kernel
theorem dX6_setPledge_64 : decode cX6_setPledge 64 = .ok (.iadd, 1) := by decide +kernel
theorem dX6_setPledge_65 : decode cX6_setPledge 65 = .ok (.iload_n 2, 1) := by decide +kernel
theorem dX6_setPledge_66 : decode cX6_setPledge 66 = .ok (.iastore, 1) := by decide +kernel
theorem dX6_setPledge_67 : decode cX6_setPledge 67 = .ok (.iload_n 3, 1) := by decide +kernel
theorem dX6_setPledge_68 : decode cX6_setPledge 68 = .ok (.ireturn, 1) := by decide +kernel
theorem dX6_says_0 : decode cX6_says 0 = .ok (.aload_n 0, 1) := by decide +kernel
theorem dX6_says_1 : decode cX6_says 1 = .ok (.getfield 39, 3) := by decide +kernel
theorem dX6_says_4 : decode cX6_says 4 = .ok (.aload_n 0, 1) := by decide +kernel
theorem dX6_says_5 : decode cX6_says 5 = .ok (.getfield 324, 3) := by decide +kernel
theorem dX6_says_8 : decode cX6_says 8 = .ok (.iload_n 1, 1) := by decide +kernel
theorem dX6_says_9 : decode cX6_says 9 = .ok (.iastore, 1) := by decide +kernel
theorem dX6_says_10 : decode cX6_says 10 = .ok (.aload_n 0, 1) := by decide +kernel
theorem dX6_says_11 : decode cX6_says 11 = .ok (.dup, 1) := by decide +kernel
theorem dX6_says_12 : decode cX6_says 12 = .ok (.getfield 324, 3) := by decide +kernel
theorem dX6_says_15 : decode cX6_says 15 = .ok (.iconst 1, 1) := by decide +kernel
theorem dX6_says_16 : decode cX6_says 16 = .ok (.iadd, 1) := by decide +kernel
theorem dX6_says_17 : decode cX6_says 17 = .ok (.putfield 324, 3) := by decide +kernel
theorem dX6_says_20 : decode cX6_says 20 = .ok (.return_, 1) := by decide +kernel
theorem dX6_saysName_0 : decode cX6_saysName 0 = .ok (.aload_n 0, 1) := by decide +kernel
theorem dX6_saysName_1 : decode cX6_saysName 1 = .ok (.getfield 7, 3) := by decide +kernel
theorem dX6_saysName_4 : decode cX6_saysName 4 = .ok (.iload_n 1, 1) := by decide +kernel
theorem dX6_saysName_5 : decode cX6_saysName 5 = .ok (.iaload, 1) := by decide +kernel
theorem dX6_saysName_6 : decode cX6_saysName 6 = .ok (.ifCond .ne 9, 3) := by decide +kernel
theorem dX6_saysName_9 : decode cX6_saysName 9 = .ok (.aload_n 0, 1) := by decide +kernel
theorem dX6_saysName_10 : decode cX6_saysName 10 = .ok (.bipush 45, 2) := by decide +kernel
theorem dX6_saysName_12 : decode cX6_saysName 12 = .ok (.invokevirtual 327, 3) := by decide +kernel
theorem dX6_saysName_15 : decode cX6_saysName 15 = .ok (.iconst 0, 1) := by decide +kernel
theorem dX6_saysName_16 : decode cX6_saysName 16 = .ok (.istore_n 2, 1) := by decide +kernel
theorem dX6_saysName_17 : decode cX6_saysName 17 = .ok (.iload_n 2, 1) := by decide +kernel
theorem dX6_saysName_18 : decode cX6_saysName 18 = .ok (.bipush 8, 2) := by decide +kernel
theorem dX6_saysName_20 : decode cX6_saysName 20 = .ok (.if_icmp .ge 32, 3) := by decide +kernel
theorem dX6_saysName_23 : decode cX6_saysName 23 = .ok (.aload_n 0, 1) := by decide +kernel
theorem dX6_saysName_24 : decode cX6_saysName 24 = .ok (.getfield 7, 3) := by decide +kernel
theorem dX6_saysName_27 : decode cX6_saysName 27 = .ok (.iload_n 1, 1) := by decide +kernel
theorem dX6_saysName_28 : decode cX6_saysName 28 = .ok (.iload_n 2, 1) := by decide +kernel
theorem dX6_saysName_29 : decode cX6_saysName 29 = .ok (.iadd, 1) := by decide +kernel
theorem dX6_saysName_30 : decode cX6_saysName 30 = .ok (.iaload, 1) := by decide +kernel
theorem dX6_saysName_31 : decode cX6_saysName 31 = .ok (.ifCond .le 21, 3) := by decide +kernel
theorem dX6_saysName_34 : decode cX6_saysName 34 = .ok (.aload_n 0, 1) := by decide +kernel
theorem dX6_saysName_35 : decode cX6_saysName 35 = .ok (.aload_n 0, 1) := by decide +kernel
theorem dX6_saysName_36 : decode cX6_saysName 36 = .ok (.getfield 7, 3) := by decide +kernel
theorem dX6_saysName_39 : decode cX6_saysName 39 = .ok (.iload_n 1, 1) := by decide +kernel
theorem dX6_saysName_40 : decode cX6_saysName 40 = .ok (.iload_n 2, 1) := by decide +kernel
theorem dX6_saysName_41 : decode cX6_saysName 41 = .ok (.iadd, 1) := by decide +kernel
theorem dX6_saysName_42 : decode cX6_saysName 42 = .ok (.iaload, 1) := by decide +kernel
theorem dX6_saysName_43 : decode cX6_saysName 43 = .ok (.invokevirtual 327, 3) := by decide +kernel
theorem dX6_saysName_46 : decode cX6_saysName 46 = .ok (.iinc 2 1, 3) := by decide +kernel
theorem dX6_saysName_49 : decode cX6_saysName 49 = .ok (.goto (-32), 3) := by decide +kernel
theorem dX6_saysName_52 : decode cX6_saysName 52 = .ok (.return_, 1) := by decide +kernel
theorem dX6_writePictures_0 : decode cX6_writePictures 0 = .ok (.aload_n 0, 1) := by decide +kernel
theorem dX6_writePictures_1 : decode cX6_writePictures 1 = .ok (.iconst 0, 1) := by decide +kernel
theorem dX6_writePictures_2 : decode cX6_writePictures 2 = .ok (.putfield 49, 3) := by decide +kernel
theorem dX6_writePictures_5 : decode cX6_writePictures 5 = .ok (.aload_n 0, 1) := by decide +kernel
theorem dX6_writePictures_6 : decode cX6_writePictures 6 = .ok (.iconst 0, 1) := by decide +kernel
theorem dX6_writePictures_7 : decode cX6_writePictures 7 = .ok (.putfield 324, 3) := by decide +kernel
theorem dX6_writePictures_10 : decode cX6_writePictures 10 = .ok (.iconst 0, 1) := by decide +kernel
theorem dX6_writePictures_11 : decode cX6_writePictures 11 = .ok (.istore_n 1, 1) := by decide +kernel
theorem dX6_writePictures_12 : decode cX6_writePictures 12 = .ok (.iload_n 1, 1) := by decide +kernel
theorem dX6_writePictures_13 : decode cX6_writePictures 13 = .ok (.aload_n 0, 1) := by decide +kernel
theorem dX6_writePictures_14 : decode cX6_writePictures 14 = .ok (.invokevirtual 169, 3) := by decide +kernel
theorem dX6_writePictures_17 : decode cX6_writePictures 17 = .ok (.if_icmp .ge 125, 3) := by decide +kernel
theorem dX6_writePictures_20 : decode cX6_writePictures 20 = .ok (.iload_n 1, 1) := by decide +kernel
theorem dX6_writePictures_21 : decode cX6_writePictures 21 = .ok (.ifCond .le 9, 3) := by decide +kernel
theorem dX6_writePictures_24 : decode cX6_writePictures 24 = .ok (.aload_n 0, 1) := by decide +kernel
theorem dX6_writePictures_25 : decode cX6_writePictures 25 = .ok (.bipush 32, 2) := by decide +kernel
theorem dX6_writePictures_27 : decode cX6_writePictures 27 = .ok (.invokevirtual 327, 3) := by decide +kernel
theorem dX6_writePictures_30 : decode cX6_writePictures 30 = .ok (.aload_n 0, 1) := by decide +kernel
theorem dX6_writePictures_31 : decode cX6_writePictures 31 = .ok (.bipush 125, 2) := by decide +kernel
theorem dX6_writePictures_33 : decode cX6_writePictures 33 = .ok (.bipush 19, 2) := by decide +kernel
theorem dX6_writePictures_35 : decode cX6_writePictures 35 = .ok (.iload_n 1, 1) := by decide +kernel
theorem dX6_writePictures_36 : decode cX6_writePictures 36 = .ok (.imul, 1) := by decide +kernel
theorem dX6_writePictures_37 : decode cX6_writePictures 37 = .ok (.iadd, 1) := by decide +kernel
theorem dX6_writePictures_38 : decode cX6_writePictures 38 = .ok (.iconst 1, 1) := by decide +kernel
theorem dX6_writePictures_39 : decode cX6_writePictures 39 = .ok (.iadd, 1) := by decide +kernel
theorem dX6_writePictures_40 : decode cX6_writePictures 40 = .ok (.invokevirtual 330, 3) := by decide +kernel
theorem dX6_writePictures_43 : decode cX6_writePictures 43 = .ok (.aload_n 0, 1) := by decide +kernel
theorem dX6_writePictures_44 : decode cX6_writePictures 44 = .ok (.bipush 58, 2) := by decide +kernel
theorem dX6_writePictures_46 : decode cX6_writePictures 46 = .ok (.invokevirtual 327, 3) := by decide +kernel
theorem dX6_writePictures_49 : decode cX6_writePictures 49 = .ok (.iconst 0, 1) := by decide +kernel
theorem dX6_writePictures_50 : decode cX6_writePictures 50 = .ok (.istore_n 2, 1) := by decide +kernel
theorem dX6_writePictures_51 : decode cX6_writePictures 51 = .ok (.iconst 0, 1) := by decide +kernel
theorem dX6_writePictures_52 : decode cX6_writePictures 52 = .ok (.istore_n 3, 1) := by decide +kernel
theorem dX6_writePictures_53 : decode cX6_writePictures 53 = .ok (.iload_n 3, 1) := by decide +kernel
theorem dX6_writePictures_54 : decode cX6_writePictures 54 = .ok (.aload_n 0, 1) := by decide +kernel
theorem dX6_writePictures_55 : decode cX6_writePictures 55 = .ok (.invokevirtual 67, 3) := by decide +kernel
theorem dX6_writePictures_58 : decode cX6_writePictures 58 = .ok (.if_icmp .ge 64, 3) := by decide +kernel
theorem dX6_writePictures_61 : decode cX6_writePictures 61 = .ok (.aload_n 0, 1) := by decide +kernel
theorem dX6_writePictures_62 : decode cX6_writePictures 62 = .ok (.iload_n 1, 1) := by decide +kernel
theorem dX6_writePictures_63 : decode cX6_writePictures 63 = .ok (.iload_n 3, 1) := by decide +kernel
theorem dX6_writePictures_64 : decode cX6_writePictures 64 = .ok (.invokevirtual 182, 3) := by decide +kernel
theorem dX6_writePictures_67 : decode cX6_writePictures 67 = .ok (.ifCond .ne 6, 3) := by decide +kernel
theorem dX6_writePictures_70 : decode cX6_writePictures 70 = .ok (.goto 46, 3) := by decide +kernel
theorem dX6_writePictures_73 : decode cX6_writePictures 73 = .ok (.iload_n 2, 1) := by decide +kernel
theorem dX6_writePictures_74 : decode cX6_writePictures 74 = .ok (.ifCond .le 9, 3) := by decide +kernel
theorem dX6_writePictures_77 : decode cX6_writePictures 77 = .ok (.aload_n 0, 1) := by decide +kernel
theorem dX6_writePictures_78 : decode cX6_writePictures 78 = .ok (.bipush 44, 2) := by decide +kernel
theorem dX6_writePictures_80 : decode cX6_writePictures 80 = .ok (.invokevirtual 327, 3) := by decide +kernel
theorem dX6_writePictures_83 : decode cX6_writePictures 83 = .ok (.aload_n 0, 1) := by decide +kernel
theorem dX6_writePictures_84 : decode cX6_writePictures 84 = .ok (.iconst 5, 1) := by decide +kernel
theorem dX6_writePictures_85 : decode cX6_writePictures 85 = .ok (.bipush 12, 2) := by decide +kernel
theorem dX6_writePictures_87 : decode cX6_writePictures 87 = .ok (.iload_n 3, 1) := by decide +kernel
theorem dX6_writePictures_88 : decode cX6_writePictures 88 = .ok (.imul, 1) := by decide +kernel
theorem dX6_writePictures_89 : decode cX6_writePictures 89 = .ok (.iadd, 1) := by decide +kernel
theorem dX6_writePictures_90 : decode cX6_writePictures 90 = .ok (.iconst 4, 1) := by decide +kernel
theorem dX6_writePictures_91 : decode cX6_writePictures 91 = .ok (.iadd, 1) := by decide +kernel
theorem dX6_writePictures_92 : decode cX6_writePictures 92 = .ok (.invokevirtual 330, 3) := by decide +kernel
theorem dX6_writePictures_95 : decode cX6_writePictures 95 = .ok (.aload_n 0, 1) := by decide +kernel
theorem dX6_writePictures_96 : decode cX6_writePictures 96 = .ok (.iload_n 1, 1) := by decide +kernel
theorem dX6_writePictures_97 : decode cX6_writePictures 97 = .ok (.iload_n 3, 1) := by decide +kernel
theorem dX6_writePictures_98 : decode cX6_writePictures 98 = .ok (.invokevirtual 182, 3) := by decide +kernel
theorem dX6_writePictures_101 : decode cX6_writePictures 101 = .ok (.invokestatic 214, 3) := by decide +kernel
theorem dX6_writePictures_104 : decode cX6_writePictures 104 = .ok (.ifCond .eq 9, 3) := by decide +kernel
theorem dX6_writePictures_107 : decode cX6_writePictures 107 = .ok (.aload_n 0, 1) := by decide +kernel
theorem dX6_writePictures_108 : decode cX6_writePictures 108 = .ok (.bipush 33, 2) := by decide +kernel
theorem dX6_writePictures_110 : decode cX6_writePictures 110 = .ok (.invokevirtual 327, 3) := by decide +kernel
theorem dX6_writePictures_113 : decode cX6_writePictures 113 = .ok (.iinc 2 1, 3) := by decide +kernel
theorem dX6_writePictures_116 : decode cX6_writePictures 116 = .ok (.iinc 3 1, 3) := by decide +kernel
theorem dX6_writePictures_119 : decode cX6_writePictures 119 = .ok (.goto (-66), 3) := by decide +kernel
theorem dX6_writePictures_122 : decode cX6_writePictures 122 = .ok (.aload_n 0, 1) := by decide +kernel
theorem dX6_writePictures_123 : decode cX6_writePictures 123 = .ok (.iload_n 1, 1) := by decide +kernel
theorem dX6_writePictures_124 : decode cX6_writePictures 124 = .ok (.invokevirtual 238, 3) := by decide +kernel
theorem dX6_writePictures_127 : decode cX6_writePictures 127 = .ok (.ifCond .eq 9, 3) := by decide +kernel
theorem dX6_writePictures_130 : decode cX6_writePictures 130 = .ok (.aload_n 0, 1) := by decide +kernel
theorem dX6_writePictures_131 : decode cX6_writePictures 131 = .ok (.bipush 42, 2) := by decide +kernel
theorem dX6_writePictures_133 : decode cX6_writePictures 133 = .ok (.invokevirtual 327, 3) := by decide +kernel
theorem dX6_writePictures_136 : decode cX6_writePictures 136 = .ok (.iinc 1 1, 3) := by decide +kernel
theorem dX6_writePictures_139 : decode cX6_writePictures 139 = .ok (.goto (-127), 3) := by decide +kernel
theorem dX6_writePictures_142 : decode cX6_writePictures 142 = .ok (.aload_n 0, 1) := by decide +kernel
theorem dX6_writePictures_143 : decode cX6_writePictures 143 = .ok (.getfield 324, 3) := by decide +kernel
theorem dX6_writePictures_146 : decode cX6_writePictures 146 = .ok (.ireturn, 1) := by decide +kernel
theorem dX6_writtenByte_0 : decode cX6_writtenByte 0 = .ok (.aload_n 0, 1) := by decide +kernel
theorem dX6_writtenByte_1 : decode cX6_writtenByte 1 = .ok (.iload_n 1, 1) := by decide +kernel
theorem dX6_writtenByte_2 : decode cX6_writtenByte 2 = .ok (.iconst 0, 1) := by decide +kernel
theorem dX6_writtenByte_3 : decode cX6_writtenByte 3 = .ok (.aload_n 0, 1) := by decide +kernel
theorem dX6_writtenByte_4 : decode cX6_writtenByte 4 = .ok (.getfield 324, 3) := by decide +kernel
theorem dX6_writtenByte_7 : decode cX6_writtenByte 7 = .ok (.iconst 1, 1) := by decide +kernel
theorem dX6_writtenByte_8 : decode cX6_writtenByte 8 = .ok (.isub, 1) := by decide +kernel
theorem dX6_writtenByte_9 : decode cX6_writtenByte 9 = .ok (.invokestatic 59, 3) := by decide +kernel
theorem dX6_writtenByte_12 : decode cX6_writtenByte 12 = .ok (.ifCond .eq 7, 3) := by decide +kernel
theorem dX6_writtenByte_15 : decode cX6_writtenByte 15 = .ok (.iconst 0, 1) := by decide +kernel
theorem dX6_writtenByte_16 : decode cX6_writtenByte 16 = .ok (.goto 4, 3) := by decide +kernel
theorem dX6_writtenByte_19 : decode cX6_writtenByte 19 = .ok (.iconst 1, 1) := by decide +kernel
theorem dX6_writtenByte_20 : decode cX6_writtenByte 20 = .ok (.putfield 49, 3) := by decide +kernel
theorem dX6_writtenByte_23 : decode cX6_writtenByte 23 = .ok (.aload_n 0, 1) := by decide +kernel
theorem dX6_writtenByte_24 : decode cX6_writtenByte 24 = .ok (.getfield 49, 3) := by decide +kernel
theorem dX6_writtenByte_27 : decode cX6_writtenByte 27 = .ok (.ifCond .le 7, 3) := by decide +kernel
theorem dX6_writtenByte_30 : decode cX6_writtenByte 30 = .ok (.iconst 0, 1) := by decide +kernel
theorem dX6_writtenByte_31 : decode cX6_writtenByte 31 = .ok (.goto 9, 3) := by decide +kernel
theorem dX6_writtenByte_34 : decode cX6_writtenByte 34 = .ok (.aload_n 0, 1) := by decide +kernel
theorem dX6_writtenByte_35 : decode cX6_writtenByte 35 = .ok (.getfield 39, 3) := by decide +kernel
theorem dX6_writtenByte_38 : decode cX6_writtenByte 38 = .ok (.iload_n 1, 1) := by decide +kernel
theorem dX6_writtenByte_39 : decode cX6_writtenByte 39 = .ok (.iaload, 1) := by decide +kernel
theorem dX6_writtenByte_40 : decode cX6_writtenByte 40 = .ok (.ireturn, 1) := by decide +kernel
end
section
theorem dL_append_0 : decode cL_append 0 = .ok (.aload 6, 2) := by decide +kernel
theorem dL_append_2 : decode cL_append 2 = .ok (.iconst 0, 1) := by decide +kernel
theorem dL_append_3 : decode cL_append 3 = .ok (.aload_n 0, 1) := by decide +kernel
theorem dL_append_4 : decode cL_append 4 = .ok (.iload_n 1, 1) := by decide +kernel
theorem dL_append_5 : decode cL_append 5 = .ok (.iload_n 2, 1) := by decide +kernel
theorem dL_append_6 : decode cL_append 6 = .ok (.iload_n 3, 1) := by decide +kernel
theorem dL_append_7 : decode cL_append 7 = .ok (.iload 4, 2) := by decide +kernel
theorem dL_append_9 : decode cL_append 9 = .ok (.iload 5, 2) := by decide +kernel
theorem dL_append_11 : decode cL_append 11 = .ok (.invokevirtual 7, 3) := by decide +kernel
theorem dL_append_14 : decode cL_append 14 = .ok (.i2l, 1) := by decide +kernel
theorem dL_append_15 : decode cL_append 15 = .ok (.lastore, 1) := by decide +kernel
theorem dL_append_16 : decode cL_append 16 = .ok (.goto 7, 3) := by decide +kernel
theorem dL_append_19 : decode cL_append 19 = .ok (.astore 7, 2) := by decide +kernel
theorem dL_append_21 : decode cL_append 21 = .ok (.iconst 1, 1) := by decide +kernel
theorem dL_append_22 : decode cL_append 22 = .ok (.ireturn, 1) := by decide +kernel
theorem dL_append_23 : decode cL_append 23 = .ok (.iconst 0, 1) := by decide +kernel
theorem dL_append_24 : decode cL_append 24 = .ok (.ireturn, 1) := by decide +kernel
theorem dL_count_0 : decode cL_count 0 = .ok (.aload_n 2, 1) := by decide +kernel
theorem dL_count_1 : decode cL_count 1 = .ok (.iconst 0, 1) := by decide +kernel
theorem dL_count_2 : decode cL_count 2 = .ok (.aload_n 0, 1) := by decide +kernel
theorem dL_count_3 : decode cL_count 3 = .ok (.iload_n 1, 1) := by decide +kernel
theorem dL_count_4 : decode cL_count 4 = .ok (.invokevirtual 15, 3) := by decide +kernel
theorem dL_count_7 : decode cL_count 7 = .ok (.i2l, 1) := by decide +kernel
theorem dL_count_8 : decode cL_count 8 = .ok (.lastore, 1) := by decide +kernel
theorem dL_count_9 : decode cL_count 9 = .ok (.goto 6, 3) := by decide +kernel
theorem dL_count_12 : decode cL_count 12 = .ok (.astore_n 3, 1) := by decide +kernel
theorem dL_count_13 : decode cL_count 13 = .ok (.iconst 1, 1) := by decide +kernel
theorem dL_count_14 : decode cL_count 14 = .ok (.ireturn, 1) := by decide +kernel
theorem dL_count_15 : decode cL_count 15 = .ok (.iconst 0, 1) := by decide +kernel
theorem dL_count_16 : decode cL_count 16 = .ok (.ireturn, 1) := by decide +kernel
theorem dL_family_0 : decode cL_family 0 = .ok (.aload_n 3, 1) := by decide +kernel
theorem dL_family_1 : decode cL_family 1 = .ok (.iconst 0, 1) := by decide +kernel
theorem dL_family_2 : decode cL_family 2 = .ok (.aload_n 0, 1) := by decide +kernel
theorem dL_family_3 : decode cL_family 3 = .ok (.iload_n 1, 1) := by decide +kernel
theorem dL_family_4 : decode cL_family 4 = .ok (.iload_n 2, 1) := by decide +kernel
theorem dL_family_5 : decode cL_family 5 = .ok (.invokevirtual 21, 3) := by decide +kernel
theorem dL_family_8 : decode cL_family 8 = .ok (.i2l, 1) := by decide +kernel
theorem dL_family_9 : decode cL_family 9 = .ok (.lastore, 1) := by decide +kernel
theorem dL_family_10 : decode cL_family 10 = .ok (.goto 11, 3) := by decide +kernel
theorem dL_family_13 : decode cL_family 13 = .ok (.astore 4, 2) := by decide +kernel
theorem dL_family_15 : decode cL_family 15 = .ok (.iconst 1, 1) := by decide +kernel
theorem dL_family_16 : decode cL_family 16 = .ok (.ireturn, 1) := by decide +kernel
theorem dL_family_17 : decode cL_family 17 = .ok (.astore 4, 2) := by decide +kernel
theorem dL_family_19 : decode cL_family 19 = .ok (.iconst 2, 1) := by decide +kernel
theorem dL_family_20 : decode cL_family 20 = .ok (.ireturn, 1) := by decide +kernel
theorem dL_family_21 : decode cL_family 21 = .ok (.iconst 0, 1) := by decide +kernel
theorem dL_family_22 : decode cL_family 22 = .ok (.ireturn, 1) := by decide +kernel
theorem dL_picture_0 : decode cL_picture 0 = .ok (.aload_n 3, 1) := by decide +kernel
theorem dL_picture_1 : decode cL_picture 1 = .ok (.iconst 0, 1) := by decide +kernel
theorem dL_picture_2 : decode cL_picture 2 = .ok (.aload_n 0, 1) := by decide +kernel
theorem dL_picture_3 : decode cL_picture 3 = .ok (.iload_n 1, 1) := by decide +kernel
theorem dL_picture_4 : decode cL_picture 4 = .ok (.iload_n 2, 1) := by decide +kernel
theorem dL_picture_5 : decode cL_picture 5 = .ok (.invokevirtual 27, 3) := by decide +kernel
theorem dL_picture_8 : decode cL_picture 8 = .ok (.i2l, 1) := by decide +kernel
theorem dL_picture_9 : decode cL_picture 9 = .ok (.lastore, 1) := by decide +kernel
theorem dL_picture_10 : decode cL_picture 10 = .ok (.goto 11, 3) := by decide +kernel
theorem dL_picture_13 : decode cL_picture 13 = .ok (.astore 4, 2) := by decide +kernel
theorem dL_picture_15 : decode cL_picture 15 = .ok (.iconst 1, 1) := by decide +kernel
theorem dL_picture_16 : decode cL_picture 16 = .ok (.ireturn, 1) := by decide +kernel
theorem dL_picture_17 : decode cL_picture 17 = .ok (.astore 4, 2) := by decide +kernel
theorem dL_picture_19 : decode cL_picture 19 = .ok (.iconst 2, 1) := by decide +kernel
theorem dL_picture_20 : decode cL_picture 20 = .ok (.ireturn, 1) := by decide +kernel
theorem dL_picture_21 : decode cL_picture 21 = .ok (.iconst 0, 1) := by decide +kernel
theorem dL_picture_22 : decode cL_picture 22 = .ok (.ireturn, 1) := by decide +kernel
theorem dL_copy_0 : decode cL_copy 0 = .ok (.aload_n 3, 1) := by decide +kernel
theorem dL_copy_1 : decode cL_copy 1 = .ok (.iconst 0, 1) := by decide +kernel
theorem dL_copy_2 : decode cL_copy 2 = .ok (.aload_n 0, 1) := by decide +kernel
theorem dL_copy_3 : decode cL_copy 3 = .ok (.iload_n 1, 1) := by decide +kernel
theorem dL_copy_4 : decode cL_copy 4 = .ok (.iload_n 2, 1) := by decide +kernel
theorem dL_copy_5 : decode cL_copy 5 = .ok (.invokevirtual 30, 3) := by decide +kernel
theorem dL_copy_8 : decode cL_copy 8 = .ok (.i2l, 1) := by decide +kernel
theorem dL_copy_9 : decode cL_copy 9 = .ok (.lastore, 1) := by decide +kernel
theorem dL_copy_10 : decode cL_copy 10 = .ok (.goto 7, 3) := by decide +kernel
theorem dL_copy_13 : decode cL_copy 13 = .ok (.astore 4, 2) := by decide +kernel
theorem dL_copy_15 : decode cL_copy 15 = .ok (.iconst 1, 1) := by decide +kernel
theorem dL_copy_16 : decode cL_copy 16 = .ok (.ireturn, 1) := by decide +kernel
theorem dL_copy_17 : decode cL_copy 17 = .ok (.iconst 0, 1) := by decide +kernel
theorem dL_copy_18 : decode cL_copy 18 = .ok (.ireturn, 1) := by decide +kernel
theorem dL_why_0 : decode cL_why 0 = .ok (.aload_n 3, 1) := by decide +kernel
theorem dL_why_1 : decode cL_why 1 = .ok (.iconst 0, 1) := by decide +kernel
theorem dL_why_2 : decode cL_why 2 = .ok (.aload_n 0, 1) := by decide +kernel
theorem dL_why_3 : decode cL_why 3 = .ok (.iload_n 1, 1) := by decide +kernel
theorem dL_why_4 : decode cL_why 4 = .ok (.iload_n 2, 1) := by decide +kernel
theorem dL_why_5 : decode cL_why 5 = .ok (.invokevirtual 33, 3) := by decide +kernel
theorem dL_why_8 : decode cL_why 8 = .ok (.i2l, 1) := by decide +kernel
theorem dL_why_9 : decode cL_why 9 = .ok (.lastore, 1) := by decide +kernel
theorem dL_why_10 : decode cL_why 10 = .ok (.goto 7, 3) := by decide +kernel
theorem dL_why_13 : decode cL_why 13 = .ok (.astore 4, 2) := by decide +kernel
theorem dL_why_15 : decode cL_why 15 = .ok (.iconst 1, 1) := by decide +kernel
theorem dL_why_16 : decode cL_why 16 = .ok (.ireturn, 1) := by decide +kernel
theorem dL_why_17 : decode cL_why 17 = .ok (.iconst 0, 1) := by decide +kernel
theorem dL_why_18 : decode cL_why 18 = .ok (.ireturn, 1) := by decide +kernel
theorem dL_chance_0 : decode cL_chance 0 = .ok (.aload 4, 2) := by decide +kernel
theorem dL_chance_2 : decode cL_chance 2 = .ok (.iconst 0, 1) := by decide +kernel
theorem dL_chance_3 : decode cL_chance 3 = .ok (.aload_n 0, 1) := by decide +kernel
theorem dL_chance_4 : decode cL_chance 4 = .ok (.iload_n 1, 1) := by decide +kernel
theorem dL_chance_5 : decode cL_chance 5 = .ok (.iload_n 2, 1) := by decide +kernel
theorem dL_chance_6 : decode cL_chance 6 = .ok (.iload_n 3, 1) := by decide +kernel
theorem dL_chance_7 : decode cL_chance 7 = .ok (.invokevirtual 36, 3) := by decide +kernel
theorem dL_chance_10 : decode cL_chance 10 = .ok (.dastore, 1) := by decide +kernel
theorem dL_chance_11 : decode cL_chance 11 = .ok (.goto 15, 3) := by decide +kernel
theorem dL_chance_14 : decode cL_chance 14 = .ok (.astore 5, 2) := by decide +kernel
theorem dL_chance_16 : decode cL_chance 16 = .ok (.iconst 1, 1) := by decide +kernel
theorem dL_chance_17 : decode cL_chance 17 = .ok (.ireturn, 1) := by decide +kernel
theorem dL_chance_18 : decode cL_chance 18 = .ok (.astore 5, 2) := by decide +kernel
theorem dL_chance_20 : decode cL_chance 20 = .ok (.iconst 2, 1) := by decide +kernel
theorem dL_chance_21 : decode cL_chance 21 = .ok (.ireturn, 1) := by decide +kernel
theorem dL_chance_22 : decode cL_chance 22 = .ok (.astore 5, 2) := by decide +kernel
theorem dL_chance_24 : decode cL_chance 24 = .ok (.iconst 3, 1) := by decide +kernel
theorem dL_chance_25 : decode cL_chance 25 = .ok (.ireturn, 1) := by decide +kernel
theorem dL_chance_26 : decode cL_chance 26 = .ok (.iconst 0, 1) := by decide +kernel
theorem dL_chance_27 : decode cL_chance 27 = .ok (.ireturn, 1) := by decide +kernel
theorem dL_bestTile_0 : decode cL_bestTile 0 = .ok (.aload_n 2, 1) := by decide +kernel
theorem dL_bestTile_1 : decode cL_bestTile 1 = .ok (.iconst 0, 1) := by decide +kernel
theorem dL_bestTile_2 : decode cL_bestTile 2 = .ok (.aload_n 0, 1) := by decide +kernel
theorem dL_bestTile_3 : decode cL_bestTile 3 = .ok (.iload_n 1, 1) := by decide +kernel
theorem dL_bestTile_4 : decode cL_bestTile 4 = .ok (.invokevirtual 40, 3) := by decide +kernel
theorem dL_bestTile_7 : decode cL_bestTile 7 = .ok (.i2l, 1) := by decide +kernel
theorem dL_bestTile_8 : decode cL_bestTile 8 = .ok (.lastore, 1) := by decide +kernel
theorem dL_bestTile_9 : decode cL_bestTile 9 = .ok (.goto 6, 3) := by decide +kernel
theorem dL_bestTile_12 : decode cL_bestTile 12 = .ok (.astore_n 3, 1) := by decide +kernel
theorem dL_bestTile_13 : decode cL_bestTile 13 = .ok (.iconst 1, 1) := by decide +kernel
theorem dL_bestTile_14 : decode cL_bestTile 14 = .ok (.ireturn, 1) := by decide +kernel
theorem dL_bestTile_15 : decode cL_bestTile 15 = .ok (.iconst 0, 1) := by decide +kernel
theorem dL_bestTile_16 : decode cL_bestTile 16 = .ok (.ireturn, 1) := by decide +kernel
theorem dL_roundsToFind_0 : decode cL_roundsToFind 0 = .ok (.aload_n 2, 1) := by decide +kernel
theorem dL_roundsToFind_1 : decode cL_roundsToFind 1 = .ok (.iconst 0, 1) := by decide +kernel
theorem dL_roundsToFind_2 : decode cL_roundsToFind 2 = .ok (.aload_n 0, 1) := by decide +kernel
theorem dL_roundsToFind_3 : decode cL_roundsToFind 3 = .ok (.iload_n 1, 1) := by decide +kernel
theorem dL_roundsToFind_4 : decode cL_roundsToFind 4 = .ok (.invokevirtual 43, 3) := by decide +kernel
theorem dL_roundsToFind_7 : decode cL_roundsToFind 7 = .ok (.i2l, 1) := by decide +kernel
theorem dL_roundsToFind_8 : decode cL_roundsToFind 8 = .ok (.lastore, 1) := by decide +kernel
theorem dL_roundsToFind_9 : decode cL_roundsToFind 9 = .ok (.goto 6, 3) := by decide +kernel
theorem dL_roundsToFind_12 : decode cL_roundsToFind 12 = .ok (.astore_n 3, 1) := by decide +kernel
theorem dL_roundsToFind_13 : decode cL_roundsToFind 13 = .ok (.iconst 1, 1) := by decide +kernel
theorem dL_roundsToFind_14 : decode cL_roundsToFind 14 = .ok (.ireturn, 1) := by decide +kernel
theorem dL_roundsToFind_15 : decode cL_roundsToFind 15 = .ok (.iconst 0, 1) := by decide +kernel
theorem dL_roundsToFind_16 : decode cL_roundsToFind 16 = .ok (.ireturn, 1) := by decide +kernel
theorem dL_sources_0 : decode cL_sources 0 = .ok (.aload_n 3, 1) := by decide +kernel
theorem dL_sources_1 : decode cL_sources 1 = .ok (.iconst 0, 1) := by decide +kernel
theorem dL_sources_2 : decode cL_sources 2 = .ok (.aload_n 0, 1) := by decide +kernel
theorem dL_sources_3 : decode cL_sources 3 = .ok (.iload_n 1, 1) := by decide +kernel
theorem dL_sources_4 : decode cL_sources 4 = .ok (.iload_n 2, 1) := by decide +kernel
theorem dL_sources_5 : decode cL_sources 5 = .ok (.invokevirtual 46, 3) := by decide +kernel
theorem dL_sources_8 : decode cL_sources 8 = .ok (.i2l, 1) := by decide +kernel
theorem dL_sources_9 : decode cL_sources 9 = .ok (.lastore, 1) := by decide +kernel
theorem dL_sources_10 : decode cL_sources 10 = .ok (.goto 7, 3) := by decide +kernel
theorem dL_sources_13 : decode cL_sources 13 = .ok (.astore 4, 2) := by decide +kernel
theorem dL_sources_15 : decode cL_sources 15 = .ok (.iconst 1, 1) := by decide +kernel
theorem dL_sources_16 : decode cL_sources 16 = .ok (.ireturn, 1) := by decide +kernel
theorem dL_sources_17 : decode cL_sources 17 = .ok (.iconst 0, 1) := by decide +kernel
theorem dL_sources_18 : decode cL_sources 18 = .ok (.ireturn, 1) := by decide +kernel
theorem dL_wouldGet_0 : decode cL_wouldGet 0 = .ok (.aload_n 3, 1) := by decide +kernel
theorem dL_wouldGet_1 : decode cL_wouldGet 1 = .ok (.iconst 0, 1) := by decide +kernel
theorem dL_wouldGet_2 : decode cL_wouldGet 2 = .ok (.aload_n 0, 1) := by decide +kernel
theorem dL_wouldGet_3 : decode cL_wouldGet 3 = .ok (.iload_n 1, 1) := by decide +kernel
theorem dL_wouldGet_4 : decode cL_wouldGet 4 = .ok (.iload_n 2, 1) := by decide +kernel
theorem dL_wouldGet_5 : decode cL_wouldGet 5 = .ok (.invokevirtual 49, 3) := by decide +kernel
theorem dL_wouldGet_8 : decode cL_wouldGet 8 = .ok (.i2l, 1) := by decide +kernel
theorem dL_wouldGet_9 : decode cL_wouldGet 9 = .ok (.lastore, 1) := by decide +kernel
theorem dL_wouldGet_10 : decode cL_wouldGet 10 = .ok (.goto 7, 3) := by decide +kernel
theorem dL_wouldGet_13 : decode cL_wouldGet 13 = .ok (.astore 4, 2) := by decide +kernel
theorem dL_wouldGet_15 : decode cL_wouldGet 15 = .ok (.iconst 1, 1) := by decide +kernel
theorem dL_wouldGet_16 : decode cL_wouldGet 16 = .ok (.ireturn, 1) := by decide +kernel
theorem dL_wouldGet_17 : decode cL_wouldGet 17 = .ok (.iconst 0, 1) := by decide +kernel
theorem dL_wouldGet_18 : decode cL_wouldGet 18 = .ok (.ireturn, 1) := by decide +kernel
theorem dL_depends_0 : decode cL_depends 0 = .ok (.aload_n 2, 1) := by decide +kernel
theorem dL_depends_1 : decode cL_depends 1 = .ok (.iconst 0, 1) := by decide +kernel
theorem dL_depends_2 : decode cL_depends 2 = .ok (.aload_n 0, 1) := by decide +kernel
theorem dL_depends_3 : decode cL_depends 3 = .ok (.iload_n 1, 1) := by decide +kernel
theorem dL_depends_4 : decode cL_depends 4 = .ok (.invokevirtual 52, 3) := by decide +kernel
theorem dL_depends_7 : decode cL_depends 7 = .ok (.i2l, 1) := by decide +kernel
theorem dL_depends_8 : decode cL_depends 8 = .ok (.lastore, 1) := by decide +kernel
theorem dL_depends_9 : decode cL_depends 9 = .ok (.goto 6, 3) := by decide +kernel
theorem dL_depends_12 : decode cL_depends 12 = .ok (.astore_n 3, 1) := by decide +kernel
theorem dL_depends_13 : decode cL_depends 13 = .ok (.iconst 1, 1) := by decide +kernel
theorem dL_depends_14 : decode cL_depends 14 = .ok (.ireturn, 1) := by decide +kernel
theorem dL_depends_15 : decode cL_depends 15 = .ok (.iconst 0, 1) := by decide +kernel
theorem dL_depends_16 : decode cL_depends 16 = .ok (.ireturn, 1) := by decide +kernel
theorem dL_reach_0 : decode cL_reach 0 = .ok (.aload_n 2, 1) := by decide +kernel
theorem dL_reach_1 : decode cL_reach 1 = .ok (.iconst 0, 1) := by decide +kernel
theorem dL_reach_2 : decode cL_reach 2 = .ok (.aload_n 0, 1) := by decide +kernel
theorem dL_reach_3 : decode cL_reach 3 = .ok (.iload_n 1, 1) := by decide +kernel
theorem dL_reach_4 : decode cL_reach 4 = .ok (.invokevirtual 55, 3) := by decide +kernel
theorem dL_reach_7 : decode cL_reach 7 = .ok (.i2l, 1) := by decide +kernel
theorem dL_reach_8 : decode cL_reach 8 = .ok (.lastore, 1) := by decide +kernel
theorem dL_reach_9 : decode cL_reach 9 = .ok (.goto 6, 3) := by decide +kernel
theorem dL_reach_12 : decode cL_reach 12 = .ok (.astore_n 3, 1) := by decide +kernel
theorem dL_reach_13 : decode cL_reach 13 = .ok (.iconst 1, 1) := by decide +kernel
theorem dL_reach_14 : decode cL_reach 14 = .ok (.ireturn, 1) := by decide +kernel
theorem dL_reach_15 : decode cL_reach 15 = .ok (.iconst 0, 1) := by decide +kernel
theorem dL_reach_16 : decode cL_reach 16 = .ok (.ireturn, 1) := by decide +kernel
theorem dL_ask_0 : decode cL_ask 0 = .ok (.aload 4, 2) := by decide +kernel
theorem dL_ask_2 : decode cL_ask 2 = .ok (.iconst 0, 1) := by decide +kernel
theorem dL_ask_3 : decode cL_ask 3 = .ok (.aload_n 0, 1) := by decide +kernel
theorem dL_ask_4 : decode cL_ask 4 = .ok (.iload_n 1, 1) := by decide +kernel
theorem dL_ask_5 : decode cL_ask 5 = .ok (.iload_n 2, 1) := by decide +kernel
theorem dL_ask_6 : decode cL_ask 6 = .ok (.iload_n 3, 1) := by decide +kernel
theorem dL_ask_7 : decode cL_ask 7 = .ok (.invokevirtual 58, 3) := by decide +kernel
theorem dL_ask_10 : decode cL_ask 10 = .ok (.i2l, 1) := by decide +kernel
theorem dL_ask_11 : decode cL_ask 11 = .ok (.lastore, 1) := by decide +kernel
theorem dL_ask_12 : decode cL_ask 12 = .ok (.goto 7, 3) := by decide +kernel
theorem dL_ask_15 : decode cL_ask 15 = .ok (.astore 5, 2) := by decide +kernel
theorem dL_ask_17 : decode cL_ask 17 = .ok (.iconst 1, 1) := by decide +kernel
theorem dL_ask_18 : decode cL_ask 18 = .ok (.ireturn, 1) := by decide +kernel
theorem dL_ask_19 : decode cL_ask 19 = .ok (.iconst 0, 1) := by decide +kernel
theorem dL_ask_20 : decode cL_ask 20 = .ok (.ireturn, 1) := by decide +kernel
theorem dL_round_0 : decode cL_round 0 = .ok (.aload_n 2, 1) := by decide +kernel
theorem dL_round_1 : decode cL_round 1 = .ok (.iconst 0, 1) := by decide +kernel
theorem dL_round_2 : decode cL_round 2 = .ok (.aload_n 0, 1) := by decide +kernel
theorem dL_round_3 : decode cL_round 3 = .ok (.iload_n 1, 1) := by decide +kernel
theorem dL_round_4 : decode cL_round 4 = .ok (.invokevirtual 62, 3) := by decide +kernel
theorem dL_round_7 : decode cL_round 7 = .ok (.i2l, 1) := by decide +kernel
theorem dL_round_8 : decode cL_round 8 = .ok (.lastore, 1) := by decide +kernel
theorem dL_round_9 : decode cL_round 9 = .ok (.goto 6, 3) := by decide +kernel
theorem dL_round_12 : decode cL_round 12 = .ok (.astore_n 3, 1) := by decide +kernel
theorem dL_round_13 : decode cL_round 13 = .ok (.iconst 1, 1) := by decide +kernel
theorem dL_round_14 : decode cL_round 14 = .ok (.ireturn, 1) := by decide +kernel
theorem dL_round_15 : decode cL_round 15 = .ok (.iconst 0, 1) := by decide +kernel
theorem dL_round_16 : decode cL_round 16 = .ok (.ireturn, 1) := by decide +kernel
theorem dL_harm_0 : decode cL_harm 0 = .ok (.aload_n 3, 1) := by decide +kernel
theorem dL_harm_1 : decode cL_harm 1 = .ok (.iconst 0, 1) := by decide +kernel
theorem dL_harm_2 : decode cL_harm 2 = .ok (.aload_n 0, 1) := by decide +kernel
theorem dL_harm_3 : decode cL_harm 3 = .ok (.iload_n 1, 1) := by decide +kernel
theorem dL_harm_4 : decode cL_harm 4 = .ok (.iload_n 2, 1) := by decide +kernel
theorem dL_harm_5 : decode cL_harm 5 = .ok (.invokevirtual 65, 3) := by decide +kernel
theorem dL_harm_8 : decode cL_harm 8 = .ok (.i2l, 1) := by decide +kernel
theorem dL_harm_9 : decode cL_harm 9 = .ok (.lastore, 1) := by decide +kernel
theorem dL_harm_10 : decode cL_harm 10 = .ok (.goto 11, 3) := by decide +kernel
theorem dL_harm_13 : decode cL_harm 13 = .ok (.astore 4, 2) := by decide +kernel
theorem dL_harm_15 : decode cL_harm 15 = .ok (.iconst 1, 1) := by decide +kernel
theorem dL_harm_16 : decode cL_harm 16 = .ok (.ireturn, 1) := by decide +kernel
theorem dL_harm_17 : decode cL_harm 17 = .ok (.astore 4, 2) := by decide +kernel
theorem dL_harm_19 : decode cL_harm 19 = .ok (.iconst 2, 1) := by decide +kernel
theorem dL_harm_20 : decode cL_harm 20 = .ok (.ireturn, 1) := by decide +kernel
theorem dL_harm_21 : decode cL_harm 21 = .ok (.iconst 0, 1) := by decide +kernel
theorem dL_harm_22 : decode cL_harm 22 = .ok (.ireturn, 1) := by decide +kernel
theorem dL_repair_0 : decode cL_repair 0 = .ok (.aload_n 3, 1) := by decide +kernel
theorem dL_repair_1 : decode cL_repair 1 = .ok (.iconst 0, 1) := by decide +kernel
theorem dL_repair_2 : decode cL_repair 2 = .ok (.aload_n 0, 1) := by decide +kernel
theorem dL_repair_3 : decode cL_repair 3 = .ok (.iload_n 1, 1) := by decide +kernel
theorem dL_repair_4 : decode cL_repair 4 = .ok (.iload_n 2, 1) := by decide +kernel
theorem dL_repair_5 : decode cL_repair 5 = .ok (.invokevirtual 68, 3) := by decide +kernel
theorem dL_repair_8 : decode cL_repair 8 = .ok (.i2l, 1) := by decide +kernel
theorem dL_repair_9 : decode cL_repair 9 = .ok (.lastore, 1) := by decide +kernel
theorem dL_repair_10 : decode cL_repair 10 = .ok (.goto 7, 3) := by decide +kernel
theorem dL_repair_13 : decode cL_repair 13 = .ok (.astore 4, 2) := by decide +kernel
theorem dL_repair_15 : decode cL_repair 15 = .ok (.iconst 1, 1) := by decide +kernel
theorem dL_repair_16 : decode cL_repair 16 = .ok (.ireturn, 1) := by decide +kernel
theorem dL_repair_17 : decode cL_repair 17 = .ok (.iconst 0, 1) := by decide +kernel
theorem dL_repair_18 : decode cL_repair 18 = .ok (.ireturn, 1) := by decide +kernel
theorem dL_join_0 : decode cL_join 0 = .ok (.aload_n 2, 1) := by decide +kernel
theorem dL_join_1 : decode cL_join 1 = .ok (.iconst 0, 1) := by decide +kernel
theorem dL_join_2 : decode cL_join 2 = .ok (.aload_n 0, 1) := by decide +kernel
theorem dL_join_3 : decode cL_join 3 = .ok (.iload_n 1, 1) := by decide +kernel
theorem dL_join_4 : decode cL_join 4 = .ok (.invokevirtual 71, 3) := by decide +kernel
theorem dL_join_7 : decode cL_join 7 = .ok (.i2l, 1) := by decide +kernel
theorem dL_join_8 : decode cL_join 8 = .ok (.lastore, 1) := by decide +kernel
theorem dL_join_9 : decode cL_join 9 = .ok (.goto 6, 3) := by decide +kernel
theorem dL_join_12 : decode cL_join 12 = .ok (.astore_n 3, 1) := by decide +kernel
theorem dL_join_13 : decode cL_join 13 = .ok (.iconst 1, 1) := by decide +kernel
theorem dL_join_14 : decode cL_join 14 = .ok (.ireturn, 1) := by decide +kernel
theorem dL_join_15 : decode cL_join 15 = .ok (.iconst 0, 1) := by decide +kernel
theorem dL_join_16 : decode cL_join 16 = .ok (.ireturn, 1) := by decide +kernel
theorem dL_meet_0 : decode cL_meet 0 = .ok (.aload_n 3, 1) := by decide +kernel
theorem dL_meet_1 : decode cL_meet 1 = .ok (.iconst 0, 1) := by decide +kernel
theorem dL_meet_2 : decode cL_meet 2 = .ok (.aload_n 0, 1) := by decide +kernel
theorem dL_meet_3 : decode cL_meet 3 = .ok (.iload_n 1, 1) := by decide +kernel
theorem dL_meet_4 : decode cL_meet 4 = .ok (.iload_n 2, 1) := by decide +kernel
theorem dL_meet_5 : decode cL_meet 5 = .ok (.invokevirtual 74, 3) := by decide +kernel
theorem dL_meet_8 : decode cL_meet 8 = .ok (.i2l, 1) := by decide +kernel
theorem dL_meet_9 : decode cL_meet 9 = .ok (.lastore, 1) := by decide +kernel
theorem dL_meet_10 : decode cL_meet 10 = .ok (.goto 11, 3) := by decide +kernel
theorem dL_meet_13 : decode cL_meet 13 = .ok (.astore 4, 2) := by decide +kernel
theorem dL_meet_15 : decode cL_meet 15 = .ok (.iconst 1, 1) := by decide +kernel
theorem dL_meet_16 : decode cL_meet 16 = .ok (.ireturn, 1) := by decide +kernel
theorem dL_meet_17 : decode cL_meet 17 = .ok (.astore 4, 2) := by decide +kernel
theorem dL_meet_19 : decode cL_meet 19 = .ok (.iconst 2, 1) := by decide +kernel
theorem dL_meet_20 : decode cL_meet 20 = .ok (.ireturn, 1) := by decide +kernel
theorem dL_meet_21 : decode cL_meet 21 = .ok (.iconst 0, 1) := by decide +kernel
theorem dL_meet_22 : decode cL_meet 22 = .ok (.ireturn, 1) := by decide +kernel
theorem dL_leave_0 : decode cL_leave 0 = .ok (.aload_n 2, 1) := by decide +kernel
theorem dL_leave_1 : decode cL_leave 1 = .ok (.iconst 0, 1) := by decide +kernel
theorem dL_leave_2 : decode cL_leave 2 = .ok (.aload_n 0, 1) := by decide +kernel
theorem dL_leave_3 : decode cL_leave 3 = .ok (.iload_n 1, 1) := by decide +kernel
theorem dL_leave_4 : decode cL_leave 4 = .ok (.invokevirtual 77, 3) := by decide +kernel
theorem dL_leave_7 : decode cL_leave 7 = .ok (.i2l, 1) := by decide +kernel
theorem dL_leave_8 : decode cL_leave 8 = .ok (.lastore, 1) := by decide +kernel
theorem dL_leave_9 : decode cL_leave 9 = .ok (.goto 6, 3) := by decide +kernel
theorem dL_leave_12 : decode cL_leave 12 = .ok (.astore_n 3, 1) := by decide +kernel
theorem dL_leave_13 : decode cL_leave 13 = .ok (.iconst 1, 1) := by decide +kernel
theorem dL_leave_14 : decode cL_leave 14 = .ok (.ireturn, 1) := by decide +kernel
theorem dL_leave_15 : decode cL_leave 15 = .ok (.iconst 0, 1) := by decide +kernel
theorem dL_leave_16 : decode cL_leave 16 = .ok (.ireturn, 1) := by decide +kernel
theorem dL_setPledge_0 : decode cL_setPledge 0 = .ok (.aload_n 3, 1) := by decide +kernel
theorem dL_setPledge_1 : decode cL_setPledge 1 = .ok (.iconst 0, 1) := by decide +kernel
theorem dL_setPledge_2 : decode cL_setPledge 2 = .ok (.aload_n 0, 1) := by decide +kernel
theorem dL_setPledge_3 : decode cL_setPledge 3 = .ok (.iload_n 1, 1) := by decide +kernel
theorem dL_setPledge_4 : decode cL_setPledge 4 = .ok (.iload_n 2, 1) := by decide +kernel
theorem dL_setPledge_5 : decode cL_setPledge 5 = .ok (.invokevirtual 80, 3) := by decide +kernel
theorem dL_setPledge_8 : decode cL_setPledge 8 = .ok (.i2l, 1) := by decide +kernel
theorem dL_setPledge_9 : decode cL_setPledge 9 = .ok (.lastore, 1) := by decide +kernel
theorem dL_setPledge_10 : decode cL_setPledge 10 = .ok (.goto 11, 3) := by decide +kernel
theorem dL_setPledge_13 : decode cL_setPledge 13 = .ok (.astore 4, 2) := by decide +kernel
theorem dL_setPledge_15 : decode cL_setPledge 15 = .ok (.iconst 1, 1) := by decide +kernel
theorem dL_setPledge_16 : decode cL_setPledge 16 = .ok (.ireturn, 1) := by decide +kernel
theorem dL_setPledge_17 : decode cL_setPledge 17 = .ok (.astore 4, 2) := by decide +kernel
theorem dL_setPledge_19 : decode cL_setPledge 19 = .ok (.iconst 2, 1) := by decide +kernel
theorem dL_setPledge_20 : decode cL_setPledge 20 = .ok (.ireturn, 1) := by decide +kernel
theorem dL_setPledge_21 : decode cL_setPledge 21 = .ok (.iconst 0, 1) := by decide +kernel
theorem dL_setPledge_22 : decode cL_setPledge 22 = .ok (.ireturn, 1) := by decide +kernel
theorem dL_undo_0 : decode cL_undo 0 = .ok (.aload_n 1, 1) := by decide +kernel
theorem dL_undo_1 : decode cL_undo 1 = .ok (.iconst 0, 1) := by decide +kernel
theorem dL_undo_2 : decode cL_undo 2 = .ok (.aload_n 0, 1) := by decide +kernel
theorem dL_undo_3 : decode cL_undo 3 = .ok (.invokevirtual 83, 3) := by decide +kernel
theorem dL_undo_6 : decode cL_undo 6 = .ok (.i2l, 1) := by decide +kernel
theorem dL_undo_7 : decode cL_undo 7 = .ok (.lastore, 1) := by decide +kernel
theorem dL_undo_8 : decode cL_undo 8 = .ok (.goto 6, 3) := by decide +kernel
theorem dL_undo_11 : decode cL_undo 11 = .ok (.astore_n 2, 1) := by decide +kernel
theorem dL_undo_12 : decode cL_undo 12 = .ok (.iconst 1, 1) := by decide +kernel
theorem dL_undo_13 : decode cL_undo 13 = .ok (.ireturn, 1) := by decide +kernel
theorem dL_undo_14 : decode cL_undo 14 = .ok (.iconst 0, 1) := by decide +kernel
theorem dL_undo_15 : decode cL_undo 15 = .ok (.ireturn, 1) := by decide +kernel
theorem dL_save_0 : decode cL_save 0 = .ok (.aload_n 0, 1) := by decide +kernel
theorem dL_save_1 : decode cL_save 1 = .ok (.iload_n 1, 1) := by decide +kernel
theorem dL_save_2 : decode cL_save 2 = .ok (.invokevirtual 87, 3) := by decide +kernel
theorem dL_save_5 : decode cL_save 5 = .ok (.goto 6, 3) := by decide +kernel
theorem dL_save_8 : decode cL_save 8 = .ok (.astore_n 2, 1) := by decide +kernel
theorem dL_save_9 : decode cL_save 9 = .ok (.iconst 1, 1) := by decide +kernel
theorem dL_save_10 : decode cL_save 10 = .ok (.ireturn, 1) := by decide +kernel
theorem dL_save_11 : decode cL_save 11 = .ok (.iconst 0, 1) := by decide +kernel
theorem dL_save_12 : decode cL_save 12 = .ok (.ireturn, 1) := by decide +kernel
theorem dL_restore_0 : decode cL_restore 0 = .ok (.aload_n 2, 1) := by decide +kernel
theorem dL_restore_1 : decode cL_restore 1 = .ok (.iconst 0, 1) := by decide +kernel
theorem dL_restore_2 : decode cL_restore 2 = .ok (.aload_n 0, 1) := by decide +kernel
theorem dL_restore_3 : decode cL_restore 3 = .ok (.iload_n 1, 1) := by decide +kernel
theorem dL_restore_4 : decode cL_restore 4 = .ok (.invokevirtual 91, 3) := by decide +kernel
theorem dL_restore_7 : decode cL_restore 7 = .ok (.i2l, 1) := by decide +kernel
theorem dL_restore_8 : decode cL_restore 8 = .ok (.lastore, 1) := by decide +kernel
theorem dL_restore_9 : decode cL_restore 9 = .ok (.goto 9, 3) := by decide +kernel
theorem dL_restore_12 : decode cL_restore 12 = .ok (.astore_n 3, 1) := by decide +kernel
theorem dL_restore_13 : decode cL_restore 13 = .ok (.iconst 1, 1) := by decide +kernel
theorem dL_restore_14 : decode cL_restore 14 = .ok (.ireturn, 1) := by decide +kernel
theorem dL_restore_15 : decode cL_restore 15 = .ok (.astore_n 3, 1) := by decide +kernel
theorem dL_restore_16 : decode cL_restore 16 = .ok (.iconst 2, 1) := by decide +kernel
theorem dL_restore_17 : decode cL_restore 17 = .ok (.ireturn, 1) := by decide +kernel
theorem dL_restore_18 : decode cL_restore 18 = .ok (.iconst 0, 1) := by decide +kernel
theorem dL_restore_19 : decode cL_restore 19 = .ok (.ireturn, 1) := by decide +kernel
theorem dL_writtenByte_0 : decode cL_writtenByte 0 = .ok (.aload_n 2, 1) := by decide +kernel
theorem dL_writtenByte_1 : decode cL_writtenByte 1 = .ok (.iconst 0, 1) := by decide +kernel
theorem dL_writtenByte_2 : decode cL_writtenByte 2 = .ok (.aload_n 0, 1) := by decide +kernel
theorem dL_writtenByte_3 : decode cL_writtenByte 3 = .ok (.iload_n 1, 1) := by decide +kernel
theorem dL_writtenByte_4 : decode cL_writtenByte 4 = .ok (.invokevirtual 94, 3) := by decide +kernel
theorem dL_writtenByte_7 : decode cL_writtenByte 7 = .ok (.i2l, 1) := by decide +kernel
theorem dL_writtenByte_8 : decode cL_writtenByte 8 = .ok (.lastore, 1) := by decide +kernel
theorem dL_writtenByte_9 : decode cL_writtenByte 9 = .ok (.goto 6, 3) := by decide +kernel
theorem dL_writtenByte_12 : decode cL_writtenByte 12 = .ok (.astore_n 3, 1) := by decide +kernel
theorem dL_writtenByte_13 : decode cL_writtenByte 13 = .ok (.iconst 1, 1) := by decide +kernel
theorem dL_writtenByte_14 : decode cL_writtenByte 14 = .ok (.ireturn, 1) := by decide +kernel
theorem dL_writtenByte_15 : decode cL_writtenByte 15 = .ok (.iconst 0, 1) := by decide +kernel
theorem dL_writtenByte_16 : decode cL_writtenByte 16 = .ok (.ireturn, 1) := by decide +kernel
theorem dL_law_0 : decode cL_law 0 = .ok (.new 8, 3) := by decide +kernel
theorem dL_law_3 : decode cL_law 3 = .ok (.dup, 1) := by decide +kernel
theorem dL_law_4 : decode cL_law 4 = .ok (.invokespecial 97, 3) := by decide +kernel
theorem dL_law_7 : decode cL_law 7 = .ok (.astore_n 1, 1) := by decide +kernel
theorem dL_law_8 : decode cL_law 8 = .ok (.new 98, 3) := by decide +kernel
theorem dL_law_11 : decode cL_law 11 = .ok (.dup, 1) := by decide +kernel
theorem dL_law_12 : decode cL_law 12 = .ok (.invokespecial 100, 3) := by decide +kernel
theorem dL_law_15 : decode cL_law 15 = .ok (.astore_n 2, 1) := by decide +kernel
theorem dL_law_16 : decode cL_law 16 = .ok (.iconst 1, 1) := by decide +kernel
theorem dL_law_17 : decode cL_law 17 = .ok (.newarray .long, 2) := by decide +kernel
theorem dL_law_19 : decode cL_law 19 = .ok (.astore_n 3, 1) := by decide +kernel
theorem dL_law_20 : decode cL_law 20 = .ok (.iconst 1, 1) := by decide +kernel
theorem dL_law_21 : decode cL_law 21 = .ok (.newarray .double, 2) := by decide +kernel
theorem dL_law_23 : decode cL_law 23 = .ok (.astore 4, 2) := by decide +kernel
theorem dL_law_25 : decode cL_law 25 = .ok (.iconst 0, 1) := by decide +kernel
theorem dL_law_26 : decode cL_law 26 = .ok (.istore 5, 2) := by decide +kernel
theorem dL_law_28 : decode cL_law 28 = .ok (.iload 5, 2) := by decide +kernel
theorem dL_law_30 : decode cL_law 30 = .ok (.aload_n 0, 1) := by decide +kernel
theorem dL_law_31 : decode cL_law 31 = .ok (.arraylength, 1) := by decide +kernel
theorem dL_law_32 : decode cL_law 32 = .ok (.bipush 6, 2) := by decide +kernel
theorem dL_law_34 : decode cL_law 34 = .ok (.isub, 1) := by decide +kernel
theorem dL_law_35 : decode cL_law 35 = .ok (.if_icmp .gt 1970, 3) := by decide +kernel
theorem dL_law_38 : decode cL_law 38 = .ok (.aload_n 0, 1) := by decide +kernel
theorem dL_law_39 : decode cL_law 39 = .ok (.iload 5, 2) := by decide +kernel
theorem dL_law_41 : decode cL_law 41 = .ok (.iaload, 1) := by decide +kernel
theorem dL_law_42 : decode cL_law 42 = .ok (.bipush 63, 2) := by decide +kernel
theorem dL_law_44 : decode cL_law 44 = .ok (.iand, 1) := by decide +kernel
theorem dL_law_45 : decode cL_law 45 = .ok (.tableswitch 1954 0 36 #[163, 267, 280, 293, 349, 417, 485, 553, 621, 722, 778, 834, 847, 915, 983, 996, 1009, 1065, 1078, 1134, 1147, 1160, 1203, 1283, 1339, 1407, 1475, 1488, 1501, 1557, 1625, 1681, 1749, 1793, 1829, 1885, 1898], 163) := by decide +kernel
theorem dL_law_208 : decode cL_law 208 = .ok (.aload_n 1, 1) := by decide +kernel
theorem dL_law_209 : decode cL_law 209 = .ok (.aload_n 0, 1) := by decide +kernel
theorem dL_law_210 : decode cL_law 210 = .ok (.iload 5, 2) := by decide +kernel
theorem dL_law_212 : decode cL_law 212 = .ok (.iconst 1, 1) := by decide +kernel
theorem dL_law_213 : decode cL_law 213 = .ok (.iadd, 1) := by decide +kernel
theorem dL_law_214 : decode cL_law 214 = .ok (.iaload, 1) := by decide +kernel
theorem dL_law_215 : decode cL_law 215 = .ok (.aload_n 0, 1) := by decide +kernel
theorem dL_law_216 : decode cL_law 216 = .ok (.iload 5, 2) := by decide +kernel
theorem dL_law_218 : decode cL_law 218 = .ok (.iconst 2, 1) := by decide +kernel
theorem dL_law_219 : decode cL_law 219 = .ok (.iadd, 1) := by decide +kernel
theorem dL_law_220 : decode cL_law 220 = .ok (.iaload, 1) := by decide +kernel
theorem dL_law_221 : decode cL_law 221 = .ok (.aload_n 0, 1) := by decide +kernel
theorem dL_law_222 : decode cL_law 222 = .ok (.iload 5, 2) := by decide +kernel
theorem dL_law_224 : decode cL_law 224 = .ok (.iconst 3, 1) := by decide +kernel
theorem dL_law_225 : decode cL_law 225 = .ok (.iadd, 1) := by decide +kernel
theorem dL_law_226 : decode cL_law 226 = .ok (.iaload, 1) := by decide +kernel
theorem dL_law_227 : decode cL_law 227 = .ok (.aload_n 0, 1) := by decide +kernel
theorem dL_law_228 : decode cL_law 228 = .ok (.iload 5, 2) := by decide +kernel
theorem dL_law_230 : decode cL_law 230 = .ok (.iconst 4, 1) := by decide +kernel
theorem dL_law_231 : decode cL_law 231 = .ok (.iadd, 1) := by decide +kernel
theorem dL_law_232 : decode cL_law 232 = .ok (.iaload, 1) := by decide +kernel
theorem dL_law_233 : decode cL_law 233 = .ok (.aload_n 0, 1) := by decide +kernel
theorem dL_law_234 : decode cL_law 234 = .ok (.iload 5, 2) := by decide +kernel
theorem dL_law_236 : decode cL_law 236 = .ok (.iconst 5, 1) := by decide +kernel
theorem dL_law_237 : decode cL_law 237 = .ok (.iadd, 1) := by decide +kernel
theorem dL_law_238 : decode cL_law 238 = .ok (.iaload, 1) := by decide +kernel
theorem dL_law_239 : decode cL_law 239 = .ok (.aload_n 3, 1) := by decide +kernel
theorem dL_law_240 : decode cL_law 240 = .ok (.invokestatic 101, 3) := by decide +kernel
theorem dL_law_243 : decode cL_law 243 = .ok (.istore 6, 2) := by decide +kernel
theorem dL_law_245 : decode cL_law 245 = .ok (.aload_n 2, 1) := by decide +kernel
theorem dL_law_246 : decode cL_law 246 = .ok (.aload_n 0, 1) := by decide +kernel
theorem dL_law_247 : decode cL_law 247 = .ok (.iload 5, 2) := by decide +kernel
theorem dL_law_249 : decode cL_law 249 = .ok (.iconst 1, 1) := by decide +kernel
theorem dL_law_250 : decode cL_law 250 = .ok (.iadd, 1) := by decide +kernel
theorem dL_law_251 : decode cL_law 251 = .ok (.iaload, 1) := by decide +kernel
theorem dL_law_252 : decode cL_law 252 = .ok (.aload_n 0, 1) := by decide +kernel
theorem dL_law_253 : decode cL_law 253 = .ok (.iload 5, 2) := by decide +kernel
theorem dL_law_255 : decode cL_law 255 = .ok (.iconst 2, 1) := by decide +kernel
theorem dL_law_256 : decode cL_law 256 = .ok (.iadd, 1) := by decide +kernel
theorem dL_law_257 : decode cL_law 257 = .ok (.iaload, 1) := by decide +kernel
theorem dL_law_258 : decode cL_law 258 = .ok (.aload_n 0, 1) := by decide +kernel
theorem dL_law_259 : decode cL_law 259 = .ok (.iload 5, 2) := by decide +kernel
theorem dL_law_261 : decode cL_law 261 = .ok (.iconst 3, 1) := by decide +kernel
theorem dL_law_262 : decode cL_law 262 = .ok (.iadd, 1) := by decide +kernel
theorem dL_law_263 : decode cL_law 263 = .ok (.iaload, 1) := by decide +kernel
theorem dL_law_264 : decode cL_law 264 = .ok (.aload_n 0, 1) := by decide +kernel
theorem dL_law_265 : decode cL_law 265 = .ok (.iload 5, 2) := by decide +kernel
theorem dL_law_267 : decode cL_law 267 = .ok (.iconst 4, 1) := by decide +kernel
theorem dL_law_268 : decode cL_law 268 = .ok (.iadd, 1) := by decide +kernel
theorem dL_law_269 : decode cL_law 269 = .ok (.iaload, 1) := by decide +kernel
theorem dL_law_270 : decode cL_law 270 = .ok (.aload_n 0, 1) := by decide +kernel
theorem dL_law_271 : decode cL_law 271 = .ok (.iload 5, 2) := by decide +kernel
theorem dL_law_273 : decode cL_law 273 = .ok (.iconst 5, 1) := by decide +kernel
theorem dL_law_274 : decode cL_law 274 = .ok (.iadd, 1) := by decide +kernel
theorem dL_law_275 : decode cL_law 275 = .ok (.iaload, 1) := by decide +kernel
theorem dL_law_276 : decode cL_law 276 = .ok (.invokevirtual 106, 3) := by decide +kernel
theorem dL_law_279 : decode cL_law 279 = .ok (.istore 7, 2) := by decide +kernel
theorem dL_law_281 : decode cL_law 281 = .ok (.aload_n 2, 1) := by decide +kernel
theorem dL_law_282 : decode cL_law 282 = .ok (.invokevirtual 107, 3) := by decide +kernel
theorem dL_law_285 : decode cL_law 285 = .ok (.iload 6, 2) := by decide +kernel
theorem dL_law_287 : decode cL_law 287 = .ok (.if_icmp .eq 5, 3) := by decide +kernel
theorem dL_law_290 : decode cL_law 290 = .ok (.iconst 0, 1) := by decide +kernel
theorem dL_law_291 : decode cL_law 291 = .ok (.ireturn, 1) := by decide +kernel
theorem dL_law_292 : decode cL_law 292 = .ok (.iload 6, 2) := by decide +kernel
theorem dL_law_294 : decode cL_law 294 = .ok (.ifCond .ne 15, 3) := by decide +kernel
theorem dL_law_297 : decode cL_law 297 = .ok (.aload_n 3, 1) := by decide +kernel
theorem dL_law_298 : decode cL_law 298 = .ok (.iconst 0, 1) := by decide +kernel
theorem dL_law_299 : decode cL_law 299 = .ok (.laload, 1) := by decide +kernel
theorem dL_law_300 : decode cL_law 300 = .ok (.iload 7, 2) := by decide +kernel
theorem dL_law_302 : decode cL_law 302 = .ok (.i2l, 1) := by decide +kernel
theorem dL_law_303 : decode cL_law 303 = .ok (.lcmp, 1) := by decide +kernel
theorem dL_law_304 : decode cL_law 304 = .ok (.ifCond .eq 5, 3) := by decide +kernel
theorem dL_law_307 : decode cL_law 307 = .ok (.iconst 0, 1) := by decide +kernel
theorem dL_law_308 : decode cL_law 308 = .ok (.ireturn, 1) := by decide +kernel
theorem dL_law_309 : decode cL_law 309 = .ok (.goto 1690, 3) := by decide +kernel
theorem dL_law_312 : decode cL_law 312 = .ok (.aload_n 1, 1) := by decide +kernel
theorem dL_law_313 : decode cL_law 313 = .ok (.invokevirtual 110, 3) := by decide +kernel
theorem dL_law_316 : decode cL_law 316 = .ok (.aload_n 2, 1) := by decide +kernel
theorem dL_law_317 : decode cL_law 317 = .ok (.invokevirtual 113, 3) := by decide +kernel
theorem dL_law_320 : decode cL_law 320 = .ok (.if_icmp .eq 1679, 3) := by decide +kernel
theorem dL_law_323 : decode cL_law 323 = .ok (.iconst 0, 1) := by decide +kernel
theorem dL_law_324 : decode cL_law 324 = .ok (.ireturn, 1) := by decide +kernel
theorem dL_law_325 : decode cL_law 325 = .ok (.aload_n 1, 1) := by decide +kernel
theorem dL_law_326 : decode cL_law 326 = .ok (.invokevirtual 114, 3) := by decide +kernel
theorem dL_law_329 : decode cL_law 329 = .ok (.aload_n 2, 1) := by decide +kernel
theorem dL_law_330 : decode cL_law 330 = .ok (.invokevirtual 117, 3) := by decide +kernel
theorem dL_law_333 : decode cL_law 333 = .ok (.if_icmp .eq 1666, 3) := by decide +kernel
theorem dL_law_336 : decode cL_law 336 = .ok (.iconst 0, 1) := by decide +kernel
theorem dL_law_337 : decode cL_law 337 = .ok (.ireturn, 1) := by decide +kernel
theorem dL_law_338 : decode cL_law 338 = .ok (.aload_n 1, 1) := by decide +kernel
theorem dL_law_339 : decode cL_law 339 = .ok (.aload_n 0, 1) := by decide +kernel
theorem dL_law_340 : decode cL_law 340 = .ok (.iload 5, 2) := by decide +kernel
theorem dL_law_342 : decode cL_law 342 = .ok (.iconst 1, 1) := by decide +kernel
theorem dL_law_343 : decode cL_law 343 = .ok (.iadd, 1) := by decide +kernel
theorem dL_law_344 : decode cL_law 344 = .ok (.iaload, 1) := by decide +kernel
theorem dL_law_345 : decode cL_law 345 = .ok (.aload_n 3, 1) := by decide +kernel
theorem dL_law_346 : decode cL_law 346 = .ok (.invokestatic 118, 3) := by decide +kernel
theorem dL_law_349 : decode cL_law 349 = .ok (.istore 6, 2) := by decide +kernel
theorem dL_law_351 : decode cL_law 351 = .ok (.aload_n 2, 1) := by decide +kernel
theorem dL_law_352 : decode cL_law 352 = .ok (.aload_n 0, 1) := by decide +kernel
theorem dL_law_353 : decode cL_law 353 = .ok (.iload 5, 2) := by decide +kernel
theorem dL_law_355 : decode cL_law 355 = .ok (.iconst 1, 1) := by decide +kernel
theorem dL_law_356 : decode cL_law 356 = .ok (.iadd, 1) := by decide +kernel
theorem dL_law_357 : decode cL_law 357 = .ok (.iaload, 1) := by decide +kernel
theorem dL_law_358 : decode cL_law 358 = .ok (.invokevirtual 121, 3) := by decide +kernel
theorem dL_law_361 : decode cL_law 361 = .ok (.istore 7, 2) := by decide +kernel
theorem dL_law_363 : decode cL_law 363 = .ok (.aload_n 2, 1) := by decide +kernel
theorem dL_law_364 : decode cL_law 364 = .ok (.invokevirtual 107, 3) := by decide +kernel
theorem dL_law_367 : decode cL_law 367 = .ok (.iload 6, 2) := by decide +kernel
theorem dL_law_369 : decode cL_law 369 = .ok (.if_icmp .eq 5, 3) := by decide +kernel
theorem dL_law_372 : decode cL_law 372 = .ok (.iconst 0, 1) := by decide +kernel
theorem dL_law_373 : decode cL_law 373 = .ok (.ireturn, 1) := by decide +kernel
theorem dL_law_374 : decode cL_law 374 = .ok (.iload 6, 2) := by decide +kernel
theorem dL_law_376 : decode cL_law 376 = .ok (.ifCond .ne 15, 3) := by decide +kernel
theorem dL_law_379 : decode cL_law 379 = .ok (.aload_n 3, 1) := by decide +kernel
theorem dL_law_380 : decode cL_law 380 = .ok (.iconst 0, 1) := by decide +kernel
theorem dL_law_381 : decode cL_law 381 = .ok (.laload, 1) := by decide +kernel
theorem dL_law_382 : decode cL_law 382 = .ok (.iload 7, 2) := by decide +kernel
theorem dL_law_384 : decode cL_law 384 = .ok (.i2l, 1) := by decide +kernel
theorem dL_law_385 : decode cL_law 385 = .ok (.lcmp, 1) := by decide +kernel
theorem dL_law_386 : decode cL_law 386 = .ok (.ifCond .eq 5, 3) := by decide +kernel
theorem dL_law_389 : decode cL_law 389 = .ok (.iconst 0, 1) := by decide +kernel
theorem dL_law_390 : decode cL_law 390 = .ok (.ireturn, 1) := by decide +kernel
theorem dL_law_391 : decode cL_law 391 = .ok (.goto 1608, 3) := by decide +kernel
theorem dL_law_394 : decode cL_law 394 = .ok (.aload_n 1, 1) := by decide +kernel
theorem dL_law_395 : decode cL_law 395 = .ok (.aload_n 0, 1) := by decide +kernel
theorem dL_law_396 : decode cL_law 396 = .ok (.iload 5, 2) := by decide +kernel
theorem dL_law_398 : decode cL_law 398 = .ok (.iconst 1, 1) := by decide +kernel
theorem dL_law_399 : decode cL_law 399 = .ok (.iadd, 1) := by decide +kernel
theorem dL_law_400 : decode cL_law 400 = .ok (.iaload, 1) := by decide +kernel
theorem dL_law_401 : decode cL_law 401 = .ok (.aload_n 0, 1) := by decide +kernel
theorem dL_law_402 : decode cL_law 402 = .ok (.iload 5, 2) := by decide +kernel
theorem dL_law_404 : decode cL_law 404 = .ok (.iconst 2, 1) := by decide +kernel
theorem dL_law_405 : decode cL_law 405 = .ok (.iadd, 1) := by decide +kernel
theorem dL_law_406 : decode cL_law 406 = .ok (.iaload, 1) := by decide +kernel
theorem dL_law_407 : decode cL_law 407 = .ok (.aload_n 3, 1) := by decide +kernel
theorem dL_law_408 : decode cL_law 408 = .ok (.invokestatic 122, 3) := by decide +kernel
theorem dL_law_411 : decode cL_law 411 = .ok (.istore 6, 2) := by decide +kernel
theorem dL_law_413 : decode cL_law 413 = .ok (.aload_n 2, 1) := by decide +kernel
theorem dL_law_414 : decode cL_law 414 = .ok (.aload_n 0, 1) := by decide +kernel
theorem dL_law_415 : decode cL_law 415 = .ok (.iload 5, 2) := by decide +kernel
theorem dL_law_417 : decode cL_law 417 = .ok (.iconst 1, 1) := by decide +kernel
theorem dL_law_418 : decode cL_law 418 = .ok (.iadd, 1) := by decide +kernel
theorem dL_law_419 : decode cL_law 419 = .ok (.iaload, 1) := by decide +kernel
theorem dL_law_420 : decode cL_law 420 = .ok (.aload_n 0, 1) := by decide +kernel
theorem dL_law_421 : decode cL_law 421 = .ok (.iload 5, 2) := by decide +kernel
theorem dL_law_423 : decode cL_law 423 = .ok (.iconst 2, 1) := by decide +kernel
theorem dL_law_424 : decode cL_law 424 = .ok (.iadd, 1) := by decide +kernel
theorem dL_law_425 : decode cL_law 425 = .ok (.iaload, 1) := by decide +kernel
theorem dL_law_426 : decode cL_law 426 = .ok (.invokevirtual 125, 3) := by decide +kernel
theorem dL_law_429 : decode cL_law 429 = .ok (.istore 7, 2) := by decide +kernel
theorem dL_law_431 : decode cL_law 431 = .ok (.aload_n 2, 1) := by decide +kernel
theorem dL_law_432 : decode cL_law 432 = .ok (.invokevirtual 107, 3) := by decide +kernel
theorem dL_law_435 : decode cL_law 435 = .ok (.iload 6, 2) := by decide +kernel
theorem dL_law_437 : decode cL_law 437 = .ok (.if_icmp .eq 5, 3) := by decide +kernel
theorem dL_law_440 : decode cL_law 440 = .ok (.iconst 0, 1) := by decide +kernel
theorem dL_law_441 : decode cL_law 441 = .ok (.ireturn, 1) := by decide +kernel
theorem dL_law_442 : decode cL_law 442 = .ok (.iload 6, 2) := by decide +kernel
theorem dL_law_444 : decode cL_law 444 = .ok (.ifCond .ne 15, 3) := by decide +kernel
theorem dL_law_447 : decode cL_law 447 = .ok (.aload_n 3, 1) := by decide +kernel
theorem dL_law_448 : decode cL_law 448 = .ok (.iconst 0, 1) := by decide +kernel
theorem dL_law_449 : decode cL_law 449 = .ok (.laload, 1) := by decide +kernel
theorem dL_law_450 : decode cL_law 450 = .ok (.iload 7, 2) := by decide +kernel
theorem dL_law_452 : decode cL_law 452 = .ok (.i2l, 1) := by decide +kernel
theorem dL_law_453 : decode cL_law 453 = .ok (.lcmp, 1) := by decide +kernel
theorem dL_law_454 : decode cL_law 454 = .ok (.ifCond .eq 5, 3) := by decide +kernel
theorem dL_law_457 : decode cL_law 457 = .ok (.iconst 0, 1) := by decide +kernel
theorem dL_law_458 : decode cL_law 458 = .ok (.ireturn, 1) := by decide +kernel
theorem dL_law_459 : decode cL_law 459 = .ok (.goto 1540, 3) := by decide +kernel
theorem dL_law_462 : decode cL_law 462 = .ok (.aload_n 1, 1) := by decide +kernel
theorem dL_law_463 : decode cL_law 463 = .ok (.aload_n 0, 1) := by decide +kernel
theorem dL_law_464 : decode cL_law 464 = .ok (.iload 5, 2) := by decide +kernel
theorem dL_law_466 : decode cL_law 466 = .ok (.iconst 1, 1) := by decide +kernel
theorem dL_law_467 : decode cL_law 467 = .ok (.iadd, 1) := by decide +kernel
theorem dL_law_468 : decode cL_law 468 = .ok (.iaload, 1) := by decide +kernel
theorem dL_law_469 : decode cL_law 469 = .ok (.aload_n 0, 1) := by decide +kernel
theorem dL_law_470 : decode cL_law 470 = .ok (.iload 5, 2) := by decide +kernel
theorem dL_law_472 : decode cL_law 472 = .ok (.iconst 2, 1) := by decide +kernel
theorem dL_law_473 : decode cL_law 473 = .ok (.iadd, 1) := by decide +kernel
theorem dL_law_474 : decode cL_law 474 = .ok (.iaload, 1) := by decide +kernel
theorem dL_law_475 : decode cL_law 475 = .ok (.aload_n 3, 1) := by decide +kernel
theorem dL_law_476 : decode cL_law 476 = .ok (.invokestatic 126, 3) := by decide +kernel
theorem dL_law_479 : decode cL_law 479 = .ok (.istore 6, 2) := by decide +kernel
theorem dL_law_481 : decode cL_law 481 = .ok (.aload_n 2, 1) := by decide +kernel
theorem dL_law_482 : decode cL_law 482 = .ok (.aload_n 0, 1) := by decide +kernel
theorem dL_law_483 : decode cL_law 483 = .ok (.iload 5, 2) := by decide +kernel
theorem dL_law_485 : decode cL_law 485 = .ok (.iconst 1, 1) := by decide +kernel
theorem dL_law_486 : decode cL_law 486 = .ok (.iadd, 1) := by decide +kernel
theorem dL_law_487 : decode cL_law 487 = .ok (.iaload, 1) := by decide +kernel
theorem dL_law_488 : decode cL_law 488 = .ok (.aload_n 0, 1) := by decide +kernel
theorem dL_law_489 : decode cL_law 489 = .ok (.iload 5, 2) := by decide +kernel
theorem dL_law_491 : decode cL_law 491 = .ok (.iconst 2, 1) := by decide +kernel
theorem dL_law_492 : decode cL_law 492 = .ok (.iadd, 1) := by decide +kernel
theorem dL_law_493 : decode cL_law 493 = .ok (.iaload, 1) := by decide +kernel
theorem dL_law_494 : decode cL_law 494 = .ok (.invokevirtual 128, 3) := by decide +kernel
theorem dL_law_497 : decode cL_law 497 = .ok (.istore 7, 2) := by decide +kernel
theorem dL_law_499 : decode cL_law 499 = .ok (.aload_n 2, 1) := by decide +kernel
theorem dL_law_500 : decode cL_law 500 = .ok (.invokevirtual 107, 3) := by decide +kernel
theorem dL_law_503 : decode cL_law 503 = .ok (.iload 6, 2) := by decide +kernel
theorem dL_law_505 : decode cL_law 505 = .ok (.if_icmp .eq 5, 3) := by decide +kernel
theorem dL_law_508 : decode cL_law 508 = .ok (.iconst 0, 1) := by decide +kernel
theorem dL_law_509 : decode cL_law 509 = .ok (.ireturn, 1) := by decide +kernel
theorem dL_law_510 : decode cL_law 510 = .ok (.iload 6, 2) := by decide +kernel
theorem dL_law_512 : decode cL_law 512 = .ok (.ifCond .ne 15, 3) := by decide +kernel
theorem dL_law_515 : decode cL_law 515 = .ok (.aload_n 3, 1) := by decide +kernel
theorem dL_law_516 : decode cL_law 516 = .ok (.iconst 0, 1) := by decide +kernel
theorem dL_law_517 : decode cL_law 517 = .ok (.laload, 1) := by decide +kernel
theorem dL_law_518 : decode cL_law 518 = .ok (.iload 7, 2) := by decide +kernel
theorem dL_law_520 : decode cL_law 520 = .ok (.i2l, 1) := by decide +kernel
theorem dL_law_521 : decode cL_law 521 = .ok (.lcmp, 1) := by decide +kernel
theorem dL_law_522 : decode cL_law 522 = .ok (.ifCond .eq 5, 3) := by decide +kernel
theorem dL_law_525 : decode cL_law 525 = .ok (.iconst 0, 1) := by decide +kernel
theorem dL_law_526 : decode cL_law 526 = .ok (.ireturn, 1) := by decide +kernel
theorem dL_law_527 : decode cL_law 527 = .ok (.goto 1472, 3) := by decide +kernel
theorem dL_law_530 : decode cL_law 530 = .ok (.aload_n 1, 1) := by decide +kernel
theorem dL_law_531 : decode cL_law 531 = .ok (.aload_n 0, 1) := by decide +kernel
theorem dL_law_532 : decode cL_law 532 = .ok (.iload 5, 2) := by decide +kernel
theorem dL_law_534 : decode cL_law 534 = .ok (.iconst 1, 1) := by decide +kernel
theorem dL_law_535 : decode cL_law 535 = .ok (.iadd, 1) := by decide +kernel
theorem dL_law_536 : decode cL_law 536 = .ok (.iaload, 1) := by decide +kernel
theorem dL_law_537 : decode cL_law 537 = .ok (.aload_n 0, 1) := by decide +kernel
theorem dL_law_538 : decode cL_law 538 = .ok (.iload 5, 2) := by decide +kernel
theorem dL_law_540 : decode cL_law 540 = .ok (.iconst 2, 1) := by decide +kernel
theorem dL_law_541 : decode cL_law 541 = .ok (.iadd, 1) := by decide +kernel
theorem dL_law_542 : decode cL_law 542 = .ok (.iaload, 1) := by decide +kernel
theorem dL_law_543 : decode cL_law 543 = .ok (.aload_n 3, 1) := by decide +kernel
theorem dL_law_544 : decode cL_law 544 = .ok (.invokestatic 129, 3) := by decide +kernel
theorem dL_law_547 : decode cL_law 547 = .ok (.istore 6, 2) := by decide +kernel
theorem dL_law_549 : decode cL_law 549 = .ok (.aload_n 2, 1) := by decide +kernel
theorem dL_law_550 : decode cL_law 550 = .ok (.aload_n 0, 1) := by decide +kernel
theorem dL_law_551 : decode cL_law 551 = .ok (.iload 5, 2) := by decide +kernel
theorem dL_law_553 : decode cL_law 553 = .ok (.iconst 1, 1) := by decide +kernel
theorem dL_law_554 : decode cL_law 554 = .ok (.iadd, 1) := by decide +kernel
theorem dL_law_555 : decode cL_law 555 = .ok (.iaload, 1) := by decide +kernel
theorem dL_law_556 : decode cL_law 556 = .ok (.aload_n 0, 1) := by decide +kernel
theorem dL_law_557 : decode cL_law 557 = .ok (.iload 5, 2) := by decide +kernel
theorem dL_law_559 : decode cL_law 559 = .ok (.iconst 2, 1) := by decide +kernel
theorem dL_law_560 : decode cL_law 560 = .ok (.iadd, 1) := by decide +kernel
theorem dL_law_561 : decode cL_law 561 = .ok (.iaload, 1) := by decide +kernel
theorem dL_law_562 : decode cL_law 562 = .ok (.invokevirtual 131, 3) := by decide +kernel
theorem dL_law_565 : decode cL_law 565 = .ok (.istore 7, 2) := by decide +kernel
theorem dL_law_567 : decode cL_law 567 = .ok (.aload_n 2, 1) := by decide +kernel
theorem dL_law_568 : decode cL_law 568 = .ok (.invokevirtual 107, 3) := by decide +kernel
theorem dL_law_571 : decode cL_law 571 = .ok (.iload 6, 2) := by decide +kernel
theorem dL_law_573 : decode cL_law 573 = .ok (.if_icmp .eq 5, 3) := by decide +kernel
theorem dL_law_576 : decode cL_law 576 = .ok (.iconst 0, 1) := by decide +kernel
theorem dL_law_577 : decode cL_law 577 = .ok (.ireturn, 1) := by decide +kernel
theorem dL_law_578 : decode cL_law 578 = .ok (.iload 6, 2) := by decide +kernel
theorem dL_law_580 : decode cL_law 580 = .ok (.ifCond .ne 15, 3) := by decide +kernel
theorem dL_law_583 : decode cL_law 583 = .ok (.aload_n 3, 1) := by decide +kernel
theorem dL_law_584 : decode cL_law 584 = .ok (.iconst 0, 1) := by decide +kernel
theorem dL_law_585 : decode cL_law 585 = .ok (.laload, 1) := by decide +kernel
theorem dL_law_586 : decode cL_law 586 = .ok (.iload 7, 2) := by decide +kernel
theorem dL_law_588 : decode cL_law 588 = .ok (.i2l, 1) := by decide +kernel
theorem dL_law_589 : decode cL_law 589 = .ok (.lcmp, 1) := by decide +kernel
theorem dL_law_590 : decode cL_law 590 = .ok (.ifCond .eq 5, 3) := by decide +kernel
theorem dL_law_593 : decode cL_law 593 = .ok (.iconst 0, 1) := by decide +kernel
theorem dL_law_594 : decode cL_law 594 = .ok (.ireturn, 1) := by decide +kernel
theorem dL_law_595 : decode cL_law 595 = .ok (.goto 1404, 3) := by decide +kernel
theorem dL_law_598 : decode cL_law 598 = .ok (.aload_n 1, 1) := by decide +kernel
theorem dL_law_599 : decode cL_law 599 = .ok (.aload_n 0, 1) := by decide +kernel
theorem dL_law_600 : decode cL_law 600 = .ok (.iload 5, 2) := by decide +kernel
theorem dL_law_602 : decode cL_law 602 = .ok (.iconst 1, 1) := by decide +kernel
theorem dL_law_603 : decode cL_law 603 = .ok (.iadd, 1) := by decide +kernel
theorem dL_law_604 : decode cL_law 604 = .ok (.iaload, 1) := by decide +kernel
theorem dL_law_605 : decode cL_law 605 = .ok (.aload_n 0, 1) := by decide +kernel
theorem dL_law_606 : decode cL_law 606 = .ok (.iload 5, 2) := by decide +kernel
theorem dL_law_608 : decode cL_law 608 = .ok (.iconst 2, 1) := by decide +kernel
theorem dL_law_609 : decode cL_law 609 = .ok (.iadd, 1) := by decide +kernel
theorem dL_law_610 : decode cL_law 610 = .ok (.iaload, 1) := by decide +kernel
theorem dL_law_611 : decode cL_law 611 = .ok (.aload_n 3, 1) := by decide +kernel
theorem dL_law_612 : decode cL_law 612 = .ok (.invokestatic 132, 3) := by decide +kernel
theorem dL_law_615 : decode cL_law 615 = .ok (.istore 6, 2) := by decide +kernel
theorem dL_law_617 : decode cL_law 617 = .ok (.aload_n 2, 1) := by decide +kernel
theorem dL_law_618 : decode cL_law 618 = .ok (.aload_n 0, 1) := by decide +kernel
theorem dL_law_619 : decode cL_law 619 = .ok (.iload 5, 2) := by decide +kernel
theorem dL_law_621 : decode cL_law 621 = .ok (.iconst 1, 1) := by decide +kernel
theorem dL_law_622 : decode cL_law 622 = .ok (.iadd, 1) := by decide +kernel
theorem dL_law_623 : decode cL_law 623 = .ok (.iaload, 1) := by decide +kernel
theorem dL_law_624 : decode cL_law 624 = .ok (.aload_n 0, 1) := by decide +kernel
theorem dL_law_625 : decode cL_law 625 = .ok (.iload 5, 2) := by decide +kernel
theorem dL_law_627 : decode cL_law 627 = .ok (.iconst 2, 1) := by decide +kernel
theorem dL_law_628 : decode cL_law 628 = .ok (.iadd, 1) := by decide +kernel
theorem dL_law_629 : decode cL_law 629 = .ok (.iaload, 1) := by decide +kernel
theorem dL_law_630 : decode cL_law 630 = .ok (.invokevirtual 134, 3) := by decide +kernel
theorem dL_law_633 : decode cL_law 633 = .ok (.istore 7, 2) := by decide +kernel
theorem dL_law_635 : decode cL_law 635 = .ok (.aload_n 2, 1) := by decide +kernel
theorem dL_law_636 : decode cL_law 636 = .ok (.invokevirtual 107, 3) := by decide +kernel
theorem dL_law_639 : decode cL_law 639 = .ok (.iload 6, 2) := by decide +kernel
theorem dL_law_641 : decode cL_law 641 = .ok (.if_icmp .eq 5, 3) := by decide +kernel
theorem dL_law_644 : decode cL_law 644 = .ok (.iconst 0, 1) := by decide +kernel
theorem dL_law_645 : decode cL_law 645 = .ok (.ireturn, 1) := by decide +kernel
theorem dL_law_646 : decode cL_law 646 = .ok (.iload 6, 2) := by decide +kernel
theorem dL_law_648 : decode cL_law 648 = .ok (.ifCond .ne 15, 3) := by decide +kernel
theorem dL_law_651 : decode cL_law 651 = .ok (.aload_n 3, 1) := by decide +kernel
theorem dL_law_652 : decode cL_law 652 = .ok (.iconst 0, 1) := by decide +kernel
theorem dL_law_653 : decode cL_law 653 = .ok (.laload, 1) := by decide +kernel
theorem dL_law_654 : decode cL_law 654 = .ok (.iload 7, 2) := by decide +kernel
theorem dL_law_656 : decode cL_law 656 = .ok (.i2l, 1) := by decide +kernel
theorem dL_law_657 : decode cL_law 657 = .ok (.lcmp, 1) := by decide +kernel
theorem dL_law_658 : decode cL_law 658 = .ok (.ifCond .eq 5, 3) := by decide +kernel
theorem dL_law_661 : decode cL_law 661 = .ok (.iconst 0, 1) := by decide +kernel
theorem dL_law_662 : decode cL_law 662 = .ok (.ireturn, 1) := by decide +kernel
theorem dL_law_663 : decode cL_law 663 = .ok (.goto 1336, 3) := by decide +kernel
theorem dL_law_666 : decode cL_law 666 = .ok (.aload_n 1, 1) := by decide +kernel
theorem dL_law_667 : decode cL_law 667 = .ok (.aload_n 0, 1) := by decide +kernel
theorem dL_law_668 : decode cL_law 668 = .ok (.iload 5, 2) := by decide +kernel
theorem dL_law_670 : decode cL_law 670 = .ok (.iconst 1, 1) := by decide +kernel
theorem dL_law_671 : decode cL_law 671 = .ok (.iadd, 1) := by decide +kernel
theorem dL_law_672 : decode cL_law 672 = .ok (.iaload, 1) := by decide +kernel
theorem dL_law_673 : decode cL_law 673 = .ok (.aload_n 0, 1) := by decide +kernel
theorem dL_law_674 : decode cL_law 674 = .ok (.iload 5, 2) := by decide +kernel
theorem dL_law_676 : decode cL_law 676 = .ok (.iconst 2, 1) := by decide +kernel
theorem dL_law_677 : decode cL_law 677 = .ok (.iadd, 1) := by decide +kernel
theorem dL_law_678 : decode cL_law 678 = .ok (.iaload, 1) := by decide +kernel
theorem dL_law_679 : decode cL_law 679 = .ok (.aload_n 0, 1) := by decide +kernel
theorem dL_law_680 : decode cL_law 680 = .ok (.iload 5, 2) := by decide +kernel
theorem dL_law_682 : decode cL_law 682 = .ok (.iconst 3, 1) := by decide +kernel
theorem dL_law_683 : decode cL_law 683 = .ok (.iadd, 1) := by decide +kernel
theorem dL_law_684 : decode cL_law 684 = .ok (.iaload, 1) := by decide +kernel
theorem dL_law_685 : decode cL_law 685 = .ok (.aload 4, 2) := by decide +kernel
theorem dL_law_687 : decode cL_law 687 = .ok (.invokestatic 135, 3) := by decide +kernel
theorem dL_law_690 : decode cL_law 690 = .ok (.istore 6, 2) := by decide +kernel
theorem dL_law_692 : decode cL_law 692 = .ok (.aload_n 2, 1) := by decide +kernel
theorem dL_law_693 : decode cL_law 693 = .ok (.aload_n 0, 1) := by decide +kernel
theorem dL_law_694 : decode cL_law 694 = .ok (.iload 5, 2) := by decide +kernel
theorem dL_law_696 : decode cL_law 696 = .ok (.iconst 1, 1) := by decide +kernel
theorem dL_law_697 : decode cL_law 697 = .ok (.iadd, 1) := by decide +kernel
theorem dL_law_698 : decode cL_law 698 = .ok (.iaload, 1) := by decide +kernel
theorem dL_law_699 : decode cL_law 699 = .ok (.aload_n 0, 1) := by decide +kernel
theorem dL_law_700 : decode cL_law 700 = .ok (.iload 5, 2) := by decide +kernel
theorem dL_law_702 : decode cL_law 702 = .ok (.iconst 2, 1) := by decide +kernel
theorem dL_law_703 : decode cL_law 703 = .ok (.iadd, 1) := by decide +kernel
theorem dL_law_704 : decode cL_law 704 = .ok (.iaload, 1) := by decide +kernel
theorem dL_law_705 : decode cL_law 705 = .ok (.aload_n 0, 1) := by decide +kernel
theorem dL_law_706 : decode cL_law 706 = .ok (.iload 5, 2) := by decide +kernel
theorem dL_law_708 : decode cL_law 708 = .ok (.iconst 3, 1) := by decide +kernel
theorem dL_law_709 : decode cL_law 709 = .ok (.iadd, 1) := by decide +kernel
theorem dL_law_710 : decode cL_law 710 = .ok (.iaload, 1) := by decide +kernel
theorem dL_law_711 : decode cL_law 711 = .ok (.invokevirtual 138, 3) := by decide +kernel
theorem dL_law_714 : decode cL_law 714 = .ok (.dstore 7, 2) := by decide +kernel
theorem dL_law_716 : decode cL_law 716 = .ok (.aload_n 2, 1) := by decide +kernel
theorem dL_law_717 : decode cL_law 717 = .ok (.invokevirtual 107, 3) := by decide +kernel
theorem dL_law_720 : decode cL_law 720 = .ok (.iload 6, 2) := by decide +kernel
theorem dL_law_722 : decode cL_law 722 = .ok (.if_icmp .eq 5, 3) := by decide +kernel
theorem dL_law_725 : decode cL_law 725 = .ok (.iconst 0, 1) := by decide +kernel
theorem dL_law_726 : decode cL_law 726 = .ok (.ireturn, 1) := by decide +kernel
theorem dL_law_727 : decode cL_law 727 = .ok (.iload 6, 2) := by decide +kernel
theorem dL_law_729 : decode cL_law 729 = .ok (.ifCond .ne 35, 3) := by decide +kernel
theorem dL_law_732 : decode cL_law 732 = .ok (.aload 4, 2) := by decide +kernel
theorem dL_law_734 : decode cL_law 734 = .ok (.iconst 0, 1) := by decide +kernel
theorem dL_law_735 : decode cL_law 735 = .ok (.daload, 1) := by decide +kernel
theorem dL_law_736 : decode cL_law 736 = .ok (.dload 7, 2) := by decide +kernel
theorem dL_law_738 : decode cL_law 738 = .ok (.dcmp .l, 1) := by decide +kernel
theorem dL_law_739 : decode cL_law 739 = .ok (.ifCond .eq 25, 3) := by decide +kernel
theorem dL_law_742 : decode cL_law 742 = .ok (.aload 4, 2) := by decide +kernel
theorem dL_law_744 : decode cL_law 744 = .ok (.iconst 0, 1) := by decide +kernel
theorem dL_law_745 : decode cL_law 745 = .ok (.daload, 1) := by decide +kernel
theorem dL_law_746 : decode cL_law 746 = .ok (.aload 4, 2) := by decide +kernel
theorem dL_law_748 : decode cL_law 748 = .ok (.iconst 0, 1) := by decide +kernel
theorem dL_law_749 : decode cL_law 749 = .ok (.daload, 1) := by decide +kernel
theorem dL_law_750 : decode cL_law 750 = .ok (.dcmp .l, 1) := by decide +kernel
theorem dL_law_751 : decode cL_law 751 = .ok (.ifCond .eq 11, 3) := by decide +kernel
theorem dL_law_754 : decode cL_law 754 = .ok (.dload 7, 2) := by decide +kernel
theorem dL_law_756 : decode cL_law 756 = .ok (.dload 7, 2) := by decide +kernel
theorem dL_law_758 : decode cL_law 758 = .ok (.dcmp .l, 1) := by decide +kernel
theorem dL_law_759 : decode cL_law 759 = .ok (.ifCond .ne 5, 3) := by decide +kernel
theorem dL_law_762 : decode cL_law 762 = .ok (.iconst 0, 1) := by decide +kernel
theorem dL_law_763 : decode cL_law 763 = .ok (.ireturn, 1) := by decide +kernel
theorem dL_law_764 : decode cL_law 764 = .ok (.goto 1235, 3) := by decide +kernel
theorem dL_law_767 : decode cL_law 767 = .ok (.aload_n 1, 1) := by decide +kernel
theorem dL_law_768 : decode cL_law 768 = .ok (.aload_n 0, 1) := by decide +kernel
theorem dL_law_769 : decode cL_law 769 = .ok (.iload 5, 2) := by decide +kernel
theorem dL_law_771 : decode cL_law 771 = .ok (.iconst 1, 1) := by decide +kernel
theorem dL_law_772 : decode cL_law 772 = .ok (.iadd, 1) := by decide +kernel
theorem dL_law_773 : decode cL_law 773 = .ok (.iaload, 1) := by decide +kernel
theorem dL_law_774 : decode cL_law 774 = .ok (.aload_n 3, 1) := by decide +kernel
theorem dL_law_775 : decode cL_law 775 = .ok (.invokestatic 139, 3) := by decide +kernel
theorem dL_law_778 : decode cL_law 778 = .ok (.istore 6, 2) := by decide +kernel
theorem dL_law_780 : decode cL_law 780 = .ok (.aload_n 2, 1) := by decide +kernel
theorem dL_law_781 : decode cL_law 781 = .ok (.aload_n 0, 1) := by decide +kernel
theorem dL_law_782 : decode cL_law 782 = .ok (.iload 5, 2) := by decide +kernel
theorem dL_law_784 : decode cL_law 784 = .ok (.iconst 1, 1) := by decide +kernel
theorem dL_law_785 : decode cL_law 785 = .ok (.iadd, 1) := by decide +kernel
theorem dL_law_786 : decode cL_law 786 = .ok (.iaload, 1) := by decide +kernel
theorem dL_law_787 : decode cL_law 787 = .ok (.invokevirtual 141, 3) := by decide +kernel
theorem dL_law_790 : decode cL_law 790 = .ok (.istore 7, 2) := by decide +kernel
theorem dL_law_792 : decode cL_law 792 = .ok (.aload_n 2, 1) := by decide +kernel
theorem dL_law_793 : decode cL_law 793 = .ok (.invokevirtual 107, 3) := by decide +kernel
theorem dL_law_796 : decode cL_law 796 = .ok (.iload 6, 2) := by decide +kernel
theorem dL_law_798 : decode cL_law 798 = .ok (.if_icmp .eq 5, 3) := by decide +kernel
theorem dL_law_801 : decode cL_law 801 = .ok (.iconst 0, 1) := by decide +kernel
theorem dL_law_802 : decode cL_law 802 = .ok (.ireturn, 1) := by decide +kernel
theorem dL_law_803 : decode cL_law 803 = .ok (.iload 6, 2) := by decide +kernel
theorem dL_law_805 : decode cL_law 805 = .ok (.ifCond .ne 15, 3) := by decide +kernel
theorem dL_law_808 : decode cL_law 808 = .ok (.aload_n 3, 1) := by decide +kernel
theorem dL_law_809 : decode cL_law 809 = .ok (.iconst 0, 1) := by decide +kernel
theorem dL_law_810 : decode cL_law 810 = .ok (.laload, 1) := by decide +kernel
theorem dL_law_811 : decode cL_law 811 = .ok (.iload 7, 2) := by decide +kernel
theorem dL_law_813 : decode cL_law 813 = .ok (.i2l, 1) := by decide +kernel
theorem dL_law_814 : decode cL_law 814 = .ok (.lcmp, 1) := by decide +kernel
theorem dL_law_815 : decode cL_law 815 = .ok (.ifCond .eq 5, 3) := by decide +kernel
theorem dL_law_818 : decode cL_law 818 = .ok (.iconst 0, 1) := by decide +kernel
theorem dL_law_819 : decode cL_law 819 = .ok (.ireturn, 1) := by decide +kernel
theorem dL_law_820 : decode cL_law 820 = .ok (.goto 1179, 3) := by decide +kernel
theorem dL_law_823 : decode cL_law 823 = .ok (.aload_n 1, 1) := by decide +kernel
theorem dL_law_824 : decode cL_law 824 = .ok (.aload_n 0, 1) := by decide +kernel
theorem dL_law_825 : decode cL_law 825 = .ok (.iload 5, 2) := by decide +kernel
theorem dL_law_827 : decode cL_law 827 = .ok (.iconst 1, 1) := by decide +kernel
theorem dL_law_828 : decode cL_law 828 = .ok (.iadd, 1) := by decide +kernel
theorem dL_law_829 : decode cL_law 829 = .ok (.iaload, 1) := by decide +kernel
theorem dL_law_830 : decode cL_law 830 = .ok (.aload_n 3, 1) := by decide +kernel
theorem dL_law_831 : decode cL_law 831 = .ok (.invokestatic 142, 3) := by decide +kernel
theorem dL_law_834 : decode cL_law 834 = .ok (.istore 6, 2) := by decide +kernel
theorem dL_law_836 : decode cL_law 836 = .ok (.aload_n 2, 1) := by decide +kernel
theorem dL_law_837 : decode cL_law 837 = .ok (.aload_n 0, 1) := by decide +kernel
theorem dL_law_838 : decode cL_law 838 = .ok (.iload 5, 2) := by decide +kernel
theorem dL_law_840 : decode cL_law 840 = .ok (.iconst 1, 1) := by decide +kernel
theorem dL_law_841 : decode cL_law 841 = .ok (.iadd, 1) := by decide +kernel
theorem dL_law_842 : decode cL_law 842 = .ok (.iaload, 1) := by decide +kernel
theorem dL_law_843 : decode cL_law 843 = .ok (.invokevirtual 144, 3) := by decide +kernel
theorem dL_law_846 : decode cL_law 846 = .ok (.istore 7, 2) := by decide +kernel
theorem dL_law_848 : decode cL_law 848 = .ok (.aload_n 2, 1) := by decide +kernel
theorem dL_law_849 : decode cL_law 849 = .ok (.invokevirtual 107, 3) := by decide +kernel
theorem dL_law_852 : decode cL_law 852 = .ok (.iload 6, 2) := by decide +kernel
theorem dL_law_854 : decode cL_law 854 = .ok (.if_icmp .eq 5, 3) := by decide +kernel
theorem dL_law_857 : decode cL_law 857 = .ok (.iconst 0, 1) := by decide +kernel
theorem dL_law_858 : decode cL_law 858 = .ok (.ireturn, 1) := by decide +kernel
theorem dL_law_859 : decode cL_law 859 = .ok (.iload 6, 2) := by decide +kernel
theorem dL_law_861 : decode cL_law 861 = .ok (.ifCond .ne 15, 3) := by decide +kernel
theorem dL_law_864 : decode cL_law 864 = .ok (.aload_n 3, 1) := by decide +kernel
theorem dL_law_865 : decode cL_law 865 = .ok (.iconst 0, 1) := by decide +kernel
theorem dL_law_866 : decode cL_law 866 = .ok (.laload, 1) := by decide +kernel
theorem dL_law_867 : decode cL_law 867 = .ok (.iload 7, 2) := by decide +kernel
theorem dL_law_869 : decode cL_law 869 = .ok (.i2l, 1) := by decide +kernel
theorem dL_law_870 : decode cL_law 870 = .ok (.lcmp, 1) := by decide +kernel
theorem dL_law_871 : decode cL_law 871 = .ok (.ifCond .eq 5, 3) := by decide +kernel
theorem dL_law_874 : decode cL_law 874 = .ok (.iconst 0, 1) := by decide +kernel
theorem dL_law_875 : decode cL_law 875 = .ok (.ireturn, 1) := by decide +kernel
theorem dL_law_876 : decode cL_law 876 = .ok (.goto 1123, 3) := by decide +kernel
theorem dL_law_879 : decode cL_law 879 = .ok (.aload_n 1, 1) := by decide +kernel
theorem dL_law_880 : decode cL_law 880 = .ok (.invokevirtual 145, 3) := by decide +kernel
theorem dL_law_883 : decode cL_law 883 = .ok (.aload_n 2, 1) := by decide +kernel
theorem dL_law_884 : decode cL_law 884 = .ok (.invokevirtual 148, 3) := by decide +kernel
theorem dL_law_887 : decode cL_law 887 = .ok (.if_icmp .eq 1112, 3) := by decide +kernel
theorem dL_law_890 : decode cL_law 890 = .ok (.iconst 0, 1) := by decide +kernel
theorem dL_law_891 : decode cL_law 891 = .ok (.ireturn, 1) := by decide +kernel
theorem dL_law_892 : decode cL_law 892 = .ok (.aload_n 1, 1) := by decide +kernel
theorem dL_law_893 : decode cL_law 893 = .ok (.aload_n 0, 1) := by decide +kernel
theorem dL_law_894 : decode cL_law 894 = .ok (.iload 5, 2) := by decide +kernel
theorem dL_law_896 : decode cL_law 896 = .ok (.iconst 1, 1) := by decide +kernel
theorem dL_law_897 : decode cL_law 897 = .ok (.iadd, 1) := by decide +kernel
theorem dL_law_898 : decode cL_law 898 = .ok (.iaload, 1) := by decide +kernel
theorem dL_law_899 : decode cL_law 899 = .ok (.aload_n 0, 1) := by decide +kernel
theorem dL_law_900 : decode cL_law 900 = .ok (.iload 5, 2) := by decide +kernel
theorem dL_law_902 : decode cL_law 902 = .ok (.iconst 2, 1) := by decide +kernel
theorem dL_law_903 : decode cL_law 903 = .ok (.iadd, 1) := by decide +kernel
theorem dL_law_904 : decode cL_law 904 = .ok (.iaload, 1) := by decide +kernel
theorem dL_law_905 : decode cL_law 905 = .ok (.aload_n 3, 1) := by decide +kernel
theorem dL_law_906 : decode cL_law 906 = .ok (.invokestatic 149, 3) := by decide +kernel
theorem dL_law_909 : decode cL_law 909 = .ok (.istore 6, 2) := by decide +kernel
theorem dL_law_911 : decode cL_law 911 = .ok (.aload_n 2, 1) := by decide +kernel
theorem dL_law_912 : decode cL_law 912 = .ok (.aload_n 0, 1) := by decide +kernel
theorem dL_law_913 : decode cL_law 913 = .ok (.iload 5, 2) := by decide +kernel
theorem dL_law_915 : decode cL_law 915 = .ok (.iconst 1, 1) := by decide +kernel
theorem dL_law_916 : decode cL_law 916 = .ok (.iadd, 1) := by decide +kernel
theorem dL_law_917 : decode cL_law 917 = .ok (.iaload, 1) := by decide +kernel
theorem dL_law_918 : decode cL_law 918 = .ok (.aload_n 0, 1) := by decide +kernel
theorem dL_law_919 : decode cL_law 919 = .ok (.iload 5, 2) := by decide +kernel
theorem dL_law_921 : decode cL_law 921 = .ok (.iconst 2, 1) := by decide +kernel
theorem dL_law_922 : decode cL_law 922 = .ok (.iadd, 1) := by decide +kernel
theorem dL_law_923 : decode cL_law 923 = .ok (.iaload, 1) := by decide +kernel
theorem dL_law_924 : decode cL_law 924 = .ok (.invokevirtual 151, 3) := by decide +kernel
theorem dL_law_927 : decode cL_law 927 = .ok (.istore 7, 2) := by decide +kernel
theorem dL_law_929 : decode cL_law 929 = .ok (.aload_n 2, 1) := by decide +kernel
theorem dL_law_930 : decode cL_law 930 = .ok (.invokevirtual 107, 3) := by decide +kernel
theorem dL_law_933 : decode cL_law 933 = .ok (.iload 6, 2) := by decide +kernel
theorem dL_law_935 : decode cL_law 935 = .ok (.if_icmp .eq 5, 3) := by decide +kernel
theorem dL_law_938 : decode cL_law 938 = .ok (.iconst 0, 1) := by decide +kernel
theorem dL_law_939 : decode cL_law 939 = .ok (.ireturn, 1) := by decide +kernel
theorem dL_law_940 : decode cL_law 940 = .ok (.iload 6, 2) := by decide +kernel
theorem dL_law_942 : decode cL_law 942 = .ok (.ifCond .ne 15, 3) := by decide +kernel
theorem dL_law_945 : decode cL_law 945 = .ok (.aload_n 3, 1) := by decide +kernel
theorem dL_law_946 : decode cL_law 946 = .ok (.iconst 0, 1) := by decide +kernel
theorem dL_law_947 : decode cL_law 947 = .ok (.laload, 1) := by decide +kernel
theorem dL_law_948 : decode cL_law 948 = .ok (.iload 7, 2) := by decide +kernel
theorem dL_law_950 : decode cL_law 950 = .ok (.i2l, 1) := by decide +kernel
theorem dL_law_951 : decode cL_law 951 = .ok (.lcmp, 1) := by decide +kernel
theorem dL_law_952 : decode cL_law 952 = .ok (.ifCond .eq 5, 3) := by decide +kernel
theorem dL_law_955 : decode cL_law 955 = .ok (.iconst 0, 1) := by decide +kernel
theorem dL_law_956 : decode cL_law 956 = .ok (.ireturn, 1) := by decide +kernel
theorem dL_law_957 : decode cL_law 957 = .ok (.goto 1042, 3) := by decide +kernel
theorem dL_law_960 : decode cL_law 960 = .ok (.aload_n 1, 1) := by decide +kernel
theorem dL_law_961 : decode cL_law 961 = .ok (.aload_n 0, 1) := by decide +kernel
theorem dL_law_962 : decode cL_law 962 = .ok (.iload 5, 2) := by decide +kernel
theorem dL_law_964 : decode cL_law 964 = .ok (.iconst 1, 1) := by decide +kernel
theorem dL_law_965 : decode cL_law 965 = .ok (.iadd, 1) := by decide +kernel
theorem dL_law_966 : decode cL_law 966 = .ok (.iaload, 1) := by decide +kernel
theorem dL_law_967 : decode cL_law 967 = .ok (.aload_n 0, 1) := by decide +kernel
theorem dL_law_968 : decode cL_law 968 = .ok (.iload 5, 2) := by decide +kernel
theorem dL_law_970 : decode cL_law 970 = .ok (.iconst 2, 1) := by decide +kernel
theorem dL_law_971 : decode cL_law 971 = .ok (.iadd, 1) := by decide +kernel
theorem dL_law_972 : decode cL_law 972 = .ok (.iaload, 1) := by decide +kernel
theorem dL_law_973 : decode cL_law 973 = .ok (.aload_n 3, 1) := by decide +kernel
theorem dL_law_974 : decode cL_law 974 = .ok (.invokestatic 152, 3) := by decide +kernel
theorem dL_law_977 : decode cL_law 977 = .ok (.istore 6, 2) := by decide +kernel
theorem dL_law_979 : decode cL_law 979 = .ok (.aload_n 2, 1) := by decide +kernel
theorem dL_law_980 : decode cL_law 980 = .ok (.aload_n 0, 1) := by decide +kernel
theorem dL_law_981 : decode cL_law 981 = .ok (.iload 5, 2) := by decide +kernel
theorem dL_law_983 : decode cL_law 983 = .ok (.iconst 1, 1) := by decide +kernel
theorem dL_law_984 : decode cL_law 984 = .ok (.iadd, 1) := by decide +kernel
theorem dL_law_985 : decode cL_law 985 = .ok (.iaload, 1) := by decide +kernel
theorem dL_law_986 : decode cL_law 986 = .ok (.aload_n 0, 1) := by decide +kernel
theorem dL_law_987 : decode cL_law 987 = .ok (.iload 5, 2) := by decide +kernel
theorem dL_law_989 : decode cL_law 989 = .ok (.iconst 2, 1) := by decide +kernel
theorem dL_law_990 : decode cL_law 990 = .ok (.iadd, 1) := by decide +kernel
theorem dL_law_991 : decode cL_law 991 = .ok (.iaload, 1) := by decide +kernel
theorem dL_law_992 : decode cL_law 992 = .ok (.invokevirtual 154, 3) := by decide +kernel
theorem dL_law_995 : decode cL_law 995 = .ok (.istore 7, 2) := by decide +kernel
theorem dL_law_997 : decode cL_law 997 = .ok (.aload_n 2, 1) := by decide +kernel
theorem dL_law_998 : decode cL_law 998 = .ok (.invokevirtual 107, 3) := by decide +kernel
theorem dL_law_1001 : decode cL_law 1001 = .ok (.iload 6, 2) := by decide +kernel
theorem dL_law_1003 : decode cL_law 1003 = .ok (.if_icmp .eq 5, 3) := by decide +kernel
theorem dL_law_1006 : decode cL_law 1006 = .ok (.iconst 0, 1) := by decide +kernel
theorem dL_law_1007 : decode cL_law 1007 = .ok (.ireturn, 1) := by decide +kernel
theorem dL_law_1008 : decode cL_law 1008 = .ok (.iload 6, 2) := by decide +kernel
theorem dL_law_1010 : decode cL_law 1010 = .ok (.ifCond .ne 15, 3) := by decide +kernel
theorem dL_law_1013 : decode cL_law 1013 = .ok (.aload_n 3, 1) := by decide +kernel
theorem dL_law_1014 : decode cL_law 1014 = .ok (.iconst 0, 1) := by decide +kernel
theorem dL_law_1015 : decode cL_law 1015 = .ok (.laload, 1) := by decide +kernel
theorem dL_law_1016 : decode cL_law 1016 = .ok (.iload 7, 2) := by decide +kernel
theorem dL_law_1018 : decode cL_law 1018 = .ok (.i2l, 1) := by decide +kernel
theorem dL_law_1019 : decode cL_law 1019 = .ok (.lcmp, 1) := by decide +kernel
theorem dL_law_1020 : decode cL_law 1020 = .ok (.ifCond .eq 5, 3) := by decide +kernel
theorem dL_law_1023 : decode cL_law 1023 = .ok (.iconst 0, 1) := by decide +kernel
theorem dL_law_1024 : decode cL_law 1024 = .ok (.ireturn, 1) := by decide +kernel
theorem dL_law_1025 : decode cL_law 1025 = .ok (.goto 974, 3) := by decide +kernel
theorem dL_law_1028 : decode cL_law 1028 = .ok (.aload_n 1, 1) := by decide +kernel
theorem dL_law_1029 : decode cL_law 1029 = .ok (.invokevirtual 155, 3) := by decide +kernel
theorem dL_law_1032 : decode cL_law 1032 = .ok (.aload_n 2, 1) := by decide +kernel
theorem dL_law_1033 : decode cL_law 1033 = .ok (.invokevirtual 158, 3) := by decide +kernel
theorem dL_law_1036 : decode cL_law 1036 = .ok (.if_icmp .eq 963, 3) := by decide +kernel
theorem dL_law_1039 : decode cL_law 1039 = .ok (.iconst 0, 1) := by decide +kernel
theorem dL_law_1040 : decode cL_law 1040 = .ok (.ireturn, 1) := by decide +kernel
theorem dL_law_1041 : decode cL_law 1041 = .ok (.aload_n 1, 1) := by decide +kernel
theorem dL_law_1042 : decode cL_law 1042 = .ok (.invokevirtual 159, 3) := by decide +kernel
theorem dL_law_1045 : decode cL_law 1045 = .ok (.aload_n 2, 1) := by decide +kernel
theorem dL_law_1046 : decode cL_law 1046 = .ok (.invokevirtual 162, 3) := by decide +kernel
theorem dL_law_1049 : decode cL_law 1049 = .ok (.if_icmp .eq 950, 3) := by decide +kernel
theorem dL_law_1052 : decode cL_law 1052 = .ok (.iconst 0, 1) := by decide +kernel
theorem dL_law_1053 : decode cL_law 1053 = .ok (.ireturn, 1) := by decide +kernel
theorem dL_law_1054 : decode cL_law 1054 = .ok (.aload_n 1, 1) := by decide +kernel
theorem dL_law_1055 : decode cL_law 1055 = .ok (.aload_n 0, 1) := by decide +kernel
theorem dL_law_1056 : decode cL_law 1056 = .ok (.iload 5, 2) := by decide +kernel
theorem dL_law_1058 : decode cL_law 1058 = .ok (.iconst 1, 1) := by decide +kernel
theorem dL_law_1059 : decode cL_law 1059 = .ok (.iadd, 1) := by decide +kernel
theorem dL_law_1060 : decode cL_law 1060 = .ok (.iaload, 1) := by decide +kernel
theorem dL_law_1061 : decode cL_law 1061 = .ok (.aload_n 3, 1) := by decide +kernel
theorem dL_law_1062 : decode cL_law 1062 = .ok (.invokestatic 163, 3) := by decide +kernel
theorem dL_law_1065 : decode cL_law 1065 = .ok (.istore 6, 2) := by decide +kernel
theorem dL_law_1067 : decode cL_law 1067 = .ok (.aload_n 2, 1) := by decide +kernel
theorem dL_law_1068 : decode cL_law 1068 = .ok (.aload_n 0, 1) := by decide +kernel
theorem dL_law_1069 : decode cL_law 1069 = .ok (.iload 5, 2) := by decide +kernel
theorem dL_law_1071 : decode cL_law 1071 = .ok (.iconst 1, 1) := by decide +kernel
theorem dL_law_1072 : decode cL_law 1072 = .ok (.iadd, 1) := by decide +kernel
theorem dL_law_1073 : decode cL_law 1073 = .ok (.iaload, 1) := by decide +kernel
theorem dL_law_1074 : decode cL_law 1074 = .ok (.invokevirtual 165, 3) := by decide +kernel
theorem dL_law_1077 : decode cL_law 1077 = .ok (.istore 7, 2) := by decide +kernel
theorem dL_law_1079 : decode cL_law 1079 = .ok (.aload_n 2, 1) := by decide +kernel
theorem dL_law_1080 : decode cL_law 1080 = .ok (.invokevirtual 107, 3) := by decide +kernel
theorem dL_law_1083 : decode cL_law 1083 = .ok (.iload 6, 2) := by decide +kernel
theorem dL_law_1085 : decode cL_law 1085 = .ok (.if_icmp .eq 5, 3) := by decide +kernel
theorem dL_law_1088 : decode cL_law 1088 = .ok (.iconst 0, 1) := by decide +kernel
theorem dL_law_1089 : decode cL_law 1089 = .ok (.ireturn, 1) := by decide +kernel
theorem dL_law_1090 : decode cL_law 1090 = .ok (.iload 6, 2) := by decide +kernel
theorem dL_law_1092 : decode cL_law 1092 = .ok (.ifCond .ne 15, 3) := by decide +kernel
theorem dL_law_1095 : decode cL_law 1095 = .ok (.aload_n 3, 1) := by decide +kernel
theorem dL_law_1096 : decode cL_law 1096 = .ok (.iconst 0, 1) := by decide +kernel
theorem dL_law_1097 : decode cL_law 1097 = .ok (.laload, 1) := by decide +kernel
theorem dL_law_1098 : decode cL_law 1098 = .ok (.iload 7, 2) := by decide +kernel
theorem dL_law_1100 : decode cL_law 1100 = .ok (.i2l, 1) := by decide +kernel
theorem dL_law_1101 : decode cL_law 1101 = .ok (.lcmp, 1) := by decide +kernel
theorem dL_law_1102 : decode cL_law 1102 = .ok (.ifCond .eq 5, 3) := by decide +kernel
theorem dL_law_1105 : decode cL_law 1105 = .ok (.iconst 0, 1) := by decide +kernel
theorem dL_law_1106 : decode cL_law 1106 = .ok (.ireturn, 1) := by decide +kernel
theorem dL_law_1107 : decode cL_law 1107 = .ok (.goto 892, 3) := by decide +kernel
theorem dL_law_1110 : decode cL_law 1110 = .ok (.aload_n 1, 1) := by decide +kernel
theorem dL_law_1111 : decode cL_law 1111 = .ok (.invokevirtual 166, 3) := by decide +kernel
theorem dL_law_1114 : decode cL_law 1114 = .ok (.aload_n 2, 1) := by decide +kernel
theorem dL_law_1115 : decode cL_law 1115 = .ok (.invokevirtual 169, 3) := by decide +kernel
theorem dL_law_1118 : decode cL_law 1118 = .ok (.if_icmp .eq 881, 3) := by decide +kernel
theorem dL_law_1121 : decode cL_law 1121 = .ok (.iconst 0, 1) := by decide +kernel
theorem dL_law_1122 : decode cL_law 1122 = .ok (.ireturn, 1) := by decide +kernel
theorem dL_law_1123 : decode cL_law 1123 = .ok (.aload_n 1, 1) := by decide +kernel
theorem dL_law_1124 : decode cL_law 1124 = .ok (.aload_n 0, 1) := by decide +kernel
theorem dL_law_1125 : decode cL_law 1125 = .ok (.iload 5, 2) := by decide +kernel
theorem dL_law_1127 : decode cL_law 1127 = .ok (.iconst 1, 1) := by decide +kernel
theorem dL_law_1128 : decode cL_law 1128 = .ok (.iadd, 1) := by decide +kernel
theorem dL_law_1129 : decode cL_law 1129 = .ok (.iaload, 1) := by decide +kernel
theorem dL_law_1130 : decode cL_law 1130 = .ok (.aload_n 3, 1) := by decide +kernel
theorem dL_law_1131 : decode cL_law 1131 = .ok (.invokestatic 170, 3) := by decide +kernel
theorem dL_law_1134 : decode cL_law 1134 = .ok (.istore 6, 2) := by decide +kernel
theorem dL_law_1136 : decode cL_law 1136 = .ok (.aload_n 2, 1) := by decide +kernel
theorem dL_law_1137 : decode cL_law 1137 = .ok (.aload_n 0, 1) := by decide +kernel
theorem dL_law_1138 : decode cL_law 1138 = .ok (.iload 5, 2) := by decide +kernel
theorem dL_law_1140 : decode cL_law 1140 = .ok (.iconst 1, 1) := by decide +kernel
theorem dL_law_1141 : decode cL_law 1141 = .ok (.iadd, 1) := by decide +kernel
theorem dL_law_1142 : decode cL_law 1142 = .ok (.iaload, 1) := by decide +kernel
theorem dL_law_1143 : decode cL_law 1143 = .ok (.invokevirtual 172, 3) := by decide +kernel
theorem dL_law_1146 : decode cL_law 1146 = .ok (.istore 7, 2) := by decide +kernel
theorem dL_law_1148 : decode cL_law 1148 = .ok (.aload_n 2, 1) := by decide +kernel
theorem dL_law_1149 : decode cL_law 1149 = .ok (.invokevirtual 107, 3) := by decide +kernel
theorem dL_law_1152 : decode cL_law 1152 = .ok (.iload 6, 2) := by decide +kernel
theorem dL_law_1154 : decode cL_law 1154 = .ok (.if_icmp .eq 5, 3) := by decide +kernel
theorem dL_law_1157 : decode cL_law 1157 = .ok (.iconst 0, 1) := by decide +kernel
theorem dL_law_1158 : decode cL_law 1158 = .ok (.ireturn, 1) := by decide +kernel
theorem dL_law_1159 : decode cL_law 1159 = .ok (.iload 6, 2) := by decide +kernel
theorem dL_law_1161 : decode cL_law 1161 = .ok (.ifCond .ne 15, 3) := by decide +kernel
theorem dL_law_1164 : decode cL_law 1164 = .ok (.aload_n 3, 1) := by decide +kernel
theorem dL_law_1165 : decode cL_law 1165 = .ok (.iconst 0, 1) := by decide +kernel
theorem dL_law_1166 : decode cL_law 1166 = .ok (.laload, 1) := by decide +kernel
theorem dL_law_1167 : decode cL_law 1167 = .ok (.iload 7, 2) := by decide +kernel
theorem dL_law_1169 : decode cL_law 1169 = .ok (.i2l, 1) := by decide +kernel
theorem dL_law_1170 : decode cL_law 1170 = .ok (.lcmp, 1) := by decide +kernel
theorem dL_law_1171 : decode cL_law 1171 = .ok (.ifCond .eq 5, 3) := by decide +kernel
theorem dL_law_1174 : decode cL_law 1174 = .ok (.iconst 0, 1) := by decide +kernel
theorem dL_law_1175 : decode cL_law 1175 = .ok (.ireturn, 1) := by decide +kernel
theorem dL_law_1176 : decode cL_law 1176 = .ok (.goto 823, 3) := by decide +kernel
theorem dL_law_1179 : decode cL_law 1179 = .ok (.aload_n 1, 1) := by decide +kernel
theorem dL_law_1180 : decode cL_law 1180 = .ok (.invokevirtual 173, 3) := by decide +kernel
theorem dL_law_1183 : decode cL_law 1183 = .ok (.aload_n 2, 1) := by decide +kernel
theorem dL_law_1184 : decode cL_law 1184 = .ok (.invokevirtual 176, 3) := by decide +kernel
theorem dL_law_1187 : decode cL_law 1187 = .ok (.if_icmp .eq 812, 3) := by decide +kernel
theorem dL_law_1190 : decode cL_law 1190 = .ok (.iconst 0, 1) := by decide +kernel
theorem dL_law_1191 : decode cL_law 1191 = .ok (.ireturn, 1) := by decide +kernel
theorem dL_law_1192 : decode cL_law 1192 = .ok (.aload_n 1, 1) := by decide +kernel
theorem dL_law_1193 : decode cL_law 1193 = .ok (.invokevirtual 177, 3) := by decide +kernel
theorem dL_law_1196 : decode cL_law 1196 = .ok (.aload_n 2, 1) := by decide +kernel
theorem dL_law_1197 : decode cL_law 1197 = .ok (.invokevirtual 180, 3) := by decide +kernel
theorem dL_law_1200 : decode cL_law 1200 = .ok (.if_icmp .eq 799, 3) := by decide +kernel
theorem dL_law_1203 : decode cL_law 1203 = .ok (.iconst 0, 1) := by decide +kernel
theorem dL_law_1204 : decode cL_law 1204 = .ok (.ireturn, 1) := by decide +kernel
theorem dL_law_1205 : decode cL_law 1205 = .ok (.aload_n 1, 1) := by decide +kernel
theorem dL_law_1206 : decode cL_law 1206 = .ok (.invokevirtual 181, 3) := by decide +kernel
theorem dL_law_1209 : decode cL_law 1209 = .ok (.f2d, 1) := by decide +kernel
theorem dL_law_1210 : decode cL_law 1210 = .ok (.dstore 6, 2) := by decide +kernel
theorem dL_law_1212 : decode cL_law 1212 = .ok (.aload_n 2, 1) := by decide +kernel
theorem dL_law_1213 : decode cL_law 1213 = .ok (.invokevirtual 185, 3) := by decide +kernel
theorem dL_law_1216 : decode cL_law 1216 = .ok (.f2d, 1) := by decide +kernel
theorem dL_law_1217 : decode cL_law 1217 = .ok (.dstore 8, 2) := by decide +kernel
theorem dL_law_1219 : decode cL_law 1219 = .ok (.dload 6, 2) := by decide +kernel
theorem dL_law_1221 : decode cL_law 1221 = .ok (.dload 8, 2) := by decide +kernel
theorem dL_law_1223 : decode cL_law 1223 = .ok (.dcmp .l, 1) := by decide +kernel
theorem dL_law_1224 : decode cL_law 1224 = .ok (.ifCond .eq 21, 3) := by decide +kernel
theorem dL_law_1227 : decode cL_law 1227 = .ok (.dload 6, 2) := by decide +kernel
theorem dL_law_1229 : decode cL_law 1229 = .ok (.dload 6, 2) := by decide +kernel
theorem dL_law_1231 : decode cL_law 1231 = .ok (.dcmp .l, 1) := by decide +kernel
theorem dL_law_1232 : decode cL_law 1232 = .ok (.ifCond .eq 11, 3) := by decide +kernel
theorem dL_law_1235 : decode cL_law 1235 = .ok (.dload 8, 2) := by decide +kernel
theorem dL_law_1237 : decode cL_law 1237 = .ok (.dload 8, 2) := by decide +kernel
theorem dL_law_1239 : decode cL_law 1239 = .ok (.dcmp .l, 1) := by decide +kernel
theorem dL_law_1240 : decode cL_law 1240 = .ok (.ifCond .ne 5, 3) := by decide +kernel
theorem dL_law_1243 : decode cL_law 1243 = .ok (.iconst 0, 1) := by decide +kernel
theorem dL_law_1244 : decode cL_law 1244 = .ok (.ireturn, 1) := by decide +kernel
theorem dL_law_1245 : decode cL_law 1245 = .ok (.goto 754, 3) := by decide +kernel
theorem dL_law_1248 : decode cL_law 1248 = .ok (.aload_n 1, 1) := by decide +kernel
theorem dL_law_1249 : decode cL_law 1249 = .ok (.aload_n 0, 1) := by decide +kernel
theorem dL_law_1250 : decode cL_law 1250 = .ok (.iload 5, 2) := by decide +kernel
theorem dL_law_1252 : decode cL_law 1252 = .ok (.iconst 1, 1) := by decide +kernel
theorem dL_law_1253 : decode cL_law 1253 = .ok (.iadd, 1) := by decide +kernel
theorem dL_law_1254 : decode cL_law 1254 = .ok (.iaload, 1) := by decide +kernel
theorem dL_law_1255 : decode cL_law 1255 = .ok (.aload_n 0, 1) := by decide +kernel
theorem dL_law_1256 : decode cL_law 1256 = .ok (.iload 5, 2) := by decide +kernel
theorem dL_law_1258 : decode cL_law 1258 = .ok (.iconst 2, 1) := by decide +kernel
theorem dL_law_1259 : decode cL_law 1259 = .ok (.iadd, 1) := by decide +kernel
theorem dL_law_1260 : decode cL_law 1260 = .ok (.iaload, 1) := by decide +kernel
theorem dL_law_1261 : decode cL_law 1261 = .ok (.aload_n 0, 1) := by decide +kernel
theorem dL_law_1262 : decode cL_law 1262 = .ok (.iload 5, 2) := by decide +kernel
theorem dL_law_1264 : decode cL_law 1264 = .ok (.iconst 3, 1) := by decide +kernel
theorem dL_law_1265 : decode cL_law 1265 = .ok (.iadd, 1) := by decide +kernel
theorem dL_law_1266 : decode cL_law 1266 = .ok (.iaload, 1) := by decide +kernel
theorem dL_law_1267 : decode cL_law 1267 = .ok (.aload_n 3, 1) := by decide +kernel
theorem dL_law_1268 : decode cL_law 1268 = .ok (.invokestatic 186, 3) := by decide +kernel
theorem dL_law_1271 : decode cL_law 1271 = .ok (.istore 6, 2) := by decide +kernel
theorem dL_law_1273 : decode cL_law 1273 = .ok (.aload_n 2, 1) := by decide +kernel
theorem dL_law_1274 : decode cL_law 1274 = .ok (.aload_n 0, 1) := by decide +kernel
theorem dL_law_1275 : decode cL_law 1275 = .ok (.iload 5, 2) := by decide +kernel
theorem dL_law_1277 : decode cL_law 1277 = .ok (.iconst 1, 1) := by decide +kernel
theorem dL_law_1278 : decode cL_law 1278 = .ok (.iadd, 1) := by decide +kernel
theorem dL_law_1279 : decode cL_law 1279 = .ok (.iaload, 1) := by decide +kernel
theorem dL_law_1280 : decode cL_law 1280 = .ok (.aload_n 0, 1) := by decide +kernel
theorem dL_law_1281 : decode cL_law 1281 = .ok (.iload 5, 2) := by decide +kernel
theorem dL_law_1283 : decode cL_law 1283 = .ok (.iconst 2, 1) := by decide +kernel
theorem dL_law_1284 : decode cL_law 1284 = .ok (.iadd, 1) := by decide +kernel
theorem dL_law_1285 : decode cL_law 1285 = .ok (.iaload, 1) := by decide +kernel
theorem dL_law_1286 : decode cL_law 1286 = .ok (.aload_n 0, 1) := by decide +kernel
theorem dL_law_1287 : decode cL_law 1287 = .ok (.iload 5, 2) := by decide +kernel
theorem dL_law_1289 : decode cL_law 1289 = .ok (.iconst 3, 1) := by decide +kernel
theorem dL_law_1290 : decode cL_law 1290 = .ok (.iadd, 1) := by decide +kernel
theorem dL_law_1291 : decode cL_law 1291 = .ok (.iaload, 1) := by decide +kernel
theorem dL_law_1292 : decode cL_law 1292 = .ok (.invokevirtual 189, 3) := by decide +kernel
theorem dL_law_1295 : decode cL_law 1295 = .ok (.istore 7, 2) := by decide +kernel
theorem dL_law_1297 : decode cL_law 1297 = .ok (.aload_n 2, 1) := by decide +kernel
theorem dL_law_1298 : decode cL_law 1298 = .ok (.invokevirtual 107, 3) := by decide +kernel
theorem dL_law_1301 : decode cL_law 1301 = .ok (.iload 6, 2) := by decide +kernel
theorem dL_law_1303 : decode cL_law 1303 = .ok (.if_icmp .eq 5, 3) := by decide +kernel
theorem dL_law_1306 : decode cL_law 1306 = .ok (.iconst 0, 1) := by decide +kernel
theorem dL_law_1307 : decode cL_law 1307 = .ok (.ireturn, 1) := by decide +kernel
theorem dL_law_1308 : decode cL_law 1308 = .ok (.iload 6, 2) := by decide +kernel
theorem dL_law_1310 : decode cL_law 1310 = .ok (.ifCond .ne 15, 3) := by decide +kernel
theorem dL_law_1313 : decode cL_law 1313 = .ok (.aload_n 3, 1) := by decide +kernel
theorem dL_law_1314 : decode cL_law 1314 = .ok (.iconst 0, 1) := by decide +kernel
theorem dL_law_1315 : decode cL_law 1315 = .ok (.laload, 1) := by decide +kernel
theorem dL_law_1316 : decode cL_law 1316 = .ok (.iload 7, 2) := by decide +kernel
theorem dL_law_1318 : decode cL_law 1318 = .ok (.i2l, 1) := by decide +kernel
theorem dL_law_1319 : decode cL_law 1319 = .ok (.lcmp, 1) := by decide +kernel
theorem dL_law_1320 : decode cL_law 1320 = .ok (.ifCond .eq 5, 3) := by decide +kernel
theorem dL_law_1323 : decode cL_law 1323 = .ok (.iconst 0, 1) := by decide +kernel
theorem dL_law_1324 : decode cL_law 1324 = .ok (.ireturn, 1) := by decide +kernel
theorem dL_law_1325 : decode cL_law 1325 = .ok (.goto 674, 3) := by decide +kernel
theorem dL_law_1328 : decode cL_law 1328 = .ok (.aload_n 1, 1) := by decide +kernel
theorem dL_law_1329 : decode cL_law 1329 = .ok (.aload_n 0, 1) := by decide +kernel
theorem dL_law_1330 : decode cL_law 1330 = .ok (.iload 5, 2) := by decide +kernel
theorem dL_law_1332 : decode cL_law 1332 = .ok (.iconst 1, 1) := by decide +kernel
theorem dL_law_1333 : decode cL_law 1333 = .ok (.iadd, 1) := by decide +kernel
theorem dL_law_1334 : decode cL_law 1334 = .ok (.iaload, 1) := by decide +kernel
theorem dL_law_1335 : decode cL_law 1335 = .ok (.aload_n 3, 1) := by decide +kernel
theorem dL_law_1336 : decode cL_law 1336 = .ok (.invokestatic 190, 3) := by decide +kernel
theorem dL_law_1339 : decode cL_law 1339 = .ok (.istore 6, 2) := by decide +kernel
theorem dL_law_1341 : decode cL_law 1341 = .ok (.aload_n 2, 1) := by decide +kernel
theorem dL_law_1342 : decode cL_law 1342 = .ok (.aload_n 0, 1) := by decide +kernel
theorem dL_law_1343 : decode cL_law 1343 = .ok (.iload 5, 2) := by decide +kernel
theorem dL_law_1345 : decode cL_law 1345 = .ok (.iconst 1, 1) := by decide +kernel
theorem dL_law_1346 : decode cL_law 1346 = .ok (.iadd, 1) := by decide +kernel
theorem dL_law_1347 : decode cL_law 1347 = .ok (.iaload, 1) := by decide +kernel
theorem dL_law_1348 : decode cL_law 1348 = .ok (.invokevirtual 192, 3) := by decide +kernel
theorem dL_law_1351 : decode cL_law 1351 = .ok (.istore 7, 2) := by decide +kernel
theorem dL_law_1353 : decode cL_law 1353 = .ok (.aload_n 2, 1) := by decide +kernel
theorem dL_law_1354 : decode cL_law 1354 = .ok (.invokevirtual 107, 3) := by decide +kernel
theorem dL_law_1357 : decode cL_law 1357 = .ok (.iload 6, 2) := by decide +kernel
theorem dL_law_1359 : decode cL_law 1359 = .ok (.if_icmp .eq 5, 3) := by decide +kernel
theorem dL_law_1362 : decode cL_law 1362 = .ok (.iconst 0, 1) := by decide +kernel
theorem dL_law_1363 : decode cL_law 1363 = .ok (.ireturn, 1) := by decide +kernel
theorem dL_law_1364 : decode cL_law 1364 = .ok (.iload 6, 2) := by decide +kernel
theorem dL_law_1366 : decode cL_law 1366 = .ok (.ifCond .ne 15, 3) := by decide +kernel
theorem dL_law_1369 : decode cL_law 1369 = .ok (.aload_n 3, 1) := by decide +kernel
theorem dL_law_1370 : decode cL_law 1370 = .ok (.iconst 0, 1) := by decide +kernel
theorem dL_law_1371 : decode cL_law 1371 = .ok (.laload, 1) := by decide +kernel
theorem dL_law_1372 : decode cL_law 1372 = .ok (.iload 7, 2) := by decide +kernel
theorem dL_law_1374 : decode cL_law 1374 = .ok (.i2l, 1) := by decide +kernel
theorem dL_law_1375 : decode cL_law 1375 = .ok (.lcmp, 1) := by decide +kernel
theorem dL_law_1376 : decode cL_law 1376 = .ok (.ifCond .eq 5, 3) := by decide +kernel
theorem dL_law_1379 : decode cL_law 1379 = .ok (.iconst 0, 1) := by decide +kernel
theorem dL_law_1380 : decode cL_law 1380 = .ok (.ireturn, 1) := by decide +kernel
theorem dL_law_1381 : decode cL_law 1381 = .ok (.goto 618, 3) := by decide +kernel
theorem dL_law_1384 : decode cL_law 1384 = .ok (.aload_n 1, 1) := by decide +kernel
theorem dL_law_1385 : decode cL_law 1385 = .ok (.aload_n 0, 1) := by decide +kernel
theorem dL_law_1386 : decode cL_law 1386 = .ok (.iload 5, 2) := by decide +kernel
theorem dL_law_1388 : decode cL_law 1388 = .ok (.iconst 1, 1) := by decide +kernel
theorem dL_law_1389 : decode cL_law 1389 = .ok (.iadd, 1) := by decide +kernel
theorem dL_law_1390 : decode cL_law 1390 = .ok (.iaload, 1) := by decide +kernel
theorem dL_law_1391 : decode cL_law 1391 = .ok (.aload_n 0, 1) := by decide +kernel
theorem dL_law_1392 : decode cL_law 1392 = .ok (.iload 5, 2) := by decide +kernel
theorem dL_law_1394 : decode cL_law 1394 = .ok (.iconst 2, 1) := by decide +kernel
theorem dL_law_1395 : decode cL_law 1395 = .ok (.iadd, 1) := by decide +kernel
theorem dL_law_1396 : decode cL_law 1396 = .ok (.iaload, 1) := by decide +kernel
theorem dL_law_1397 : decode cL_law 1397 = .ok (.aload_n 3, 1) := by decide +kernel
theorem dL_law_1398 : decode cL_law 1398 = .ok (.invokestatic 193, 3) := by decide +kernel
theorem dL_law_1401 : decode cL_law 1401 = .ok (.istore 6, 2) := by decide +kernel
theorem dL_law_1403 : decode cL_law 1403 = .ok (.aload_n 2, 1) := by decide +kernel
theorem dL_law_1404 : decode cL_law 1404 = .ok (.aload_n 0, 1) := by decide +kernel
theorem dL_law_1405 : decode cL_law 1405 = .ok (.iload 5, 2) := by decide +kernel
theorem dL_law_1407 : decode cL_law 1407 = .ok (.iconst 1, 1) := by decide +kernel
theorem dL_law_1408 : decode cL_law 1408 = .ok (.iadd, 1) := by decide +kernel
theorem dL_law_1409 : decode cL_law 1409 = .ok (.iaload, 1) := by decide +kernel
theorem dL_law_1410 : decode cL_law 1410 = .ok (.aload_n 0, 1) := by decide +kernel
theorem dL_law_1411 : decode cL_law 1411 = .ok (.iload 5, 2) := by decide +kernel
theorem dL_law_1413 : decode cL_law 1413 = .ok (.iconst 2, 1) := by decide +kernel
theorem dL_law_1414 : decode cL_law 1414 = .ok (.iadd, 1) := by decide +kernel
theorem dL_law_1415 : decode cL_law 1415 = .ok (.iaload, 1) := by decide +kernel
theorem dL_law_1416 : decode cL_law 1416 = .ok (.invokevirtual 195, 3) := by decide +kernel
theorem dL_law_1419 : decode cL_law 1419 = .ok (.istore 7, 2) := by decide +kernel
theorem dL_law_1421 : decode cL_law 1421 = .ok (.aload_n 2, 1) := by decide +kernel
theorem dL_law_1422 : decode cL_law 1422 = .ok (.invokevirtual 107, 3) := by decide +kernel
theorem dL_law_1425 : decode cL_law 1425 = .ok (.iload 6, 2) := by decide +kernel
theorem dL_law_1427 : decode cL_law 1427 = .ok (.if_icmp .eq 5, 3) := by decide +kernel
theorem dL_law_1430 : decode cL_law 1430 = .ok (.iconst 0, 1) := by decide +kernel
theorem dL_law_1431 : decode cL_law 1431 = .ok (.ireturn, 1) := by decide +kernel
theorem dL_law_1432 : decode cL_law 1432 = .ok (.iload 6, 2) := by decide +kernel
theorem dL_law_1434 : decode cL_law 1434 = .ok (.ifCond .ne 15, 3) := by decide +kernel
theorem dL_law_1437 : decode cL_law 1437 = .ok (.aload_n 3, 1) := by decide +kernel
theorem dL_law_1438 : decode cL_law 1438 = .ok (.iconst 0, 1) := by decide +kernel
theorem dL_law_1439 : decode cL_law 1439 = .ok (.laload, 1) := by decide +kernel
theorem dL_law_1440 : decode cL_law 1440 = .ok (.iload 7, 2) := by decide +kernel
theorem dL_law_1442 : decode cL_law 1442 = .ok (.i2l, 1) := by decide +kernel
theorem dL_law_1443 : decode cL_law 1443 = .ok (.lcmp, 1) := by decide +kernel
theorem dL_law_1444 : decode cL_law 1444 = .ok (.ifCond .eq 5, 3) := by decide +kernel
theorem dL_law_1447 : decode cL_law 1447 = .ok (.iconst 0, 1) := by decide +kernel
theorem dL_law_1448 : decode cL_law 1448 = .ok (.ireturn, 1) := by decide +kernel
theorem dL_law_1449 : decode cL_law 1449 = .ok (.goto 550, 3) := by decide +kernel
theorem dL_law_1452 : decode cL_law 1452 = .ok (.aload_n 1, 1) := by decide +kernel
theorem dL_law_1453 : decode cL_law 1453 = .ok (.aload_n 0, 1) := by decide +kernel
theorem dL_law_1454 : decode cL_law 1454 = .ok (.iload 5, 2) := by decide +kernel
theorem dL_law_1456 : decode cL_law 1456 = .ok (.iconst 1, 1) := by decide +kernel
theorem dL_law_1457 : decode cL_law 1457 = .ok (.iadd, 1) := by decide +kernel
theorem dL_law_1458 : decode cL_law 1458 = .ok (.iaload, 1) := by decide +kernel
theorem dL_law_1459 : decode cL_law 1459 = .ok (.aload_n 0, 1) := by decide +kernel
theorem dL_law_1460 : decode cL_law 1460 = .ok (.iload 5, 2) := by decide +kernel
theorem dL_law_1462 : decode cL_law 1462 = .ok (.iconst 2, 1) := by decide +kernel
theorem dL_law_1463 : decode cL_law 1463 = .ok (.iadd, 1) := by decide +kernel
theorem dL_law_1464 : decode cL_law 1464 = .ok (.iaload, 1) := by decide +kernel
theorem dL_law_1465 : decode cL_law 1465 = .ok (.aload_n 3, 1) := by decide +kernel
theorem dL_law_1466 : decode cL_law 1466 = .ok (.invokestatic 196, 3) := by decide +kernel
theorem dL_law_1469 : decode cL_law 1469 = .ok (.istore 6, 2) := by decide +kernel
theorem dL_law_1471 : decode cL_law 1471 = .ok (.aload_n 2, 1) := by decide +kernel
theorem dL_law_1472 : decode cL_law 1472 = .ok (.aload_n 0, 1) := by decide +kernel
theorem dL_law_1473 : decode cL_law 1473 = .ok (.iload 5, 2) := by decide +kernel
theorem dL_law_1475 : decode cL_law 1475 = .ok (.iconst 1, 1) := by decide +kernel
theorem dL_law_1476 : decode cL_law 1476 = .ok (.iadd, 1) := by decide +kernel
theorem dL_law_1477 : decode cL_law 1477 = .ok (.iaload, 1) := by decide +kernel
theorem dL_law_1478 : decode cL_law 1478 = .ok (.aload_n 0, 1) := by decide +kernel
theorem dL_law_1479 : decode cL_law 1479 = .ok (.iload 5, 2) := by decide +kernel
theorem dL_law_1481 : decode cL_law 1481 = .ok (.iconst 2, 1) := by decide +kernel
theorem dL_law_1482 : decode cL_law 1482 = .ok (.iadd, 1) := by decide +kernel
theorem dL_law_1483 : decode cL_law 1483 = .ok (.iaload, 1) := by decide +kernel
theorem dL_law_1484 : decode cL_law 1484 = .ok (.invokevirtual 198, 3) := by decide +kernel
theorem dL_law_1487 : decode cL_law 1487 = .ok (.istore 7, 2) := by decide +kernel
theorem dL_law_1489 : decode cL_law 1489 = .ok (.aload_n 2, 1) := by decide +kernel
theorem dL_law_1490 : decode cL_law 1490 = .ok (.invokevirtual 107, 3) := by decide +kernel
theorem dL_law_1493 : decode cL_law 1493 = .ok (.iload 6, 2) := by decide +kernel
theorem dL_law_1495 : decode cL_law 1495 = .ok (.if_icmp .eq 5, 3) := by decide +kernel
theorem dL_law_1498 : decode cL_law 1498 = .ok (.iconst 0, 1) := by decide +kernel
theorem dL_law_1499 : decode cL_law 1499 = .ok (.ireturn, 1) := by decide +kernel
theorem dL_law_1500 : decode cL_law 1500 = .ok (.iload 6, 2) := by decide +kernel
theorem dL_law_1502 : decode cL_law 1502 = .ok (.ifCond .ne 15, 3) := by decide +kernel
theorem dL_law_1505 : decode cL_law 1505 = .ok (.aload_n 3, 1) := by decide +kernel
theorem dL_law_1506 : decode cL_law 1506 = .ok (.iconst 0, 1) := by decide +kernel
theorem dL_law_1507 : decode cL_law 1507 = .ok (.laload, 1) := by decide +kernel
theorem dL_law_1508 : decode cL_law 1508 = .ok (.iload 7, 2) := by decide +kernel
theorem dL_law_1510 : decode cL_law 1510 = .ok (.i2l, 1) := by decide +kernel
theorem dL_law_1511 : decode cL_law 1511 = .ok (.lcmp, 1) := by decide +kernel
theorem dL_law_1512 : decode cL_law 1512 = .ok (.ifCond .eq 5, 3) := by decide +kernel
theorem dL_law_1515 : decode cL_law 1515 = .ok (.iconst 0, 1) := by decide +kernel
theorem dL_law_1516 : decode cL_law 1516 = .ok (.ireturn, 1) := by decide +kernel
theorem dL_law_1517 : decode cL_law 1517 = .ok (.goto 482, 3) := by decide +kernel
theorem dL_law_1520 : decode cL_law 1520 = .ok (.aload_n 1, 1) := by decide +kernel
theorem dL_law_1521 : decode cL_law 1521 = .ok (.invokevirtual 199, 3) := by decide +kernel
theorem dL_law_1524 : decode cL_law 1524 = .ok (.aload_n 2, 1) := by decide +kernel
theorem dL_law_1525 : decode cL_law 1525 = .ok (.invokevirtual 202, 3) := by decide +kernel
theorem dL_law_1528 : decode cL_law 1528 = .ok (.if_icmp .eq 471, 3) := by decide +kernel
theorem dL_law_1531 : decode cL_law 1531 = .ok (.iconst 0, 1) := by decide +kernel
theorem dL_law_1532 : decode cL_law 1532 = .ok (.ireturn, 1) := by decide +kernel
theorem dL_law_1533 : decode cL_law 1533 = .ok (.aload_n 1, 1) := by decide +kernel
theorem dL_law_1534 : decode cL_law 1534 = .ok (.invokevirtual 203, 3) := by decide +kernel
theorem dL_law_1537 : decode cL_law 1537 = .ok (.aload_n 2, 1) := by decide +kernel
theorem dL_law_1538 : decode cL_law 1538 = .ok (.invokevirtual 206, 3) := by decide +kernel
theorem dL_law_1541 : decode cL_law 1541 = .ok (.if_icmp .eq 458, 3) := by decide +kernel
theorem dL_law_1544 : decode cL_law 1544 = .ok (.iconst 0, 1) := by decide +kernel
theorem dL_law_1545 : decode cL_law 1545 = .ok (.ireturn, 1) := by decide +kernel
theorem dL_law_1546 : decode cL_law 1546 = .ok (.aload_n 1, 1) := by decide +kernel
theorem dL_law_1547 : decode cL_law 1547 = .ok (.aload_n 0, 1) := by decide +kernel
theorem dL_law_1548 : decode cL_law 1548 = .ok (.iload 5, 2) := by decide +kernel
theorem dL_law_1550 : decode cL_law 1550 = .ok (.iconst 1, 1) := by decide +kernel
theorem dL_law_1551 : decode cL_law 1551 = .ok (.iadd, 1) := by decide +kernel
theorem dL_law_1552 : decode cL_law 1552 = .ok (.iaload, 1) := by decide +kernel
theorem dL_law_1553 : decode cL_law 1553 = .ok (.aload_n 3, 1) := by decide +kernel
theorem dL_law_1554 : decode cL_law 1554 = .ok (.invokestatic 207, 3) := by decide +kernel
theorem dL_law_1557 : decode cL_law 1557 = .ok (.istore 6, 2) := by decide +kernel
theorem dL_law_1559 : decode cL_law 1559 = .ok (.aload_n 2, 1) := by decide +kernel
theorem dL_law_1560 : decode cL_law 1560 = .ok (.aload_n 0, 1) := by decide +kernel
theorem dL_law_1561 : decode cL_law 1561 = .ok (.iload 5, 2) := by decide +kernel
theorem dL_law_1563 : decode cL_law 1563 = .ok (.iconst 1, 1) := by decide +kernel
theorem dL_law_1564 : decode cL_law 1564 = .ok (.iadd, 1) := by decide +kernel
theorem dL_law_1565 : decode cL_law 1565 = .ok (.iaload, 1) := by decide +kernel
theorem dL_law_1566 : decode cL_law 1566 = .ok (.invokevirtual 209, 3) := by decide +kernel
theorem dL_law_1569 : decode cL_law 1569 = .ok (.istore 7, 2) := by decide +kernel
theorem dL_law_1571 : decode cL_law 1571 = .ok (.aload_n 2, 1) := by decide +kernel
theorem dL_law_1572 : decode cL_law 1572 = .ok (.invokevirtual 107, 3) := by decide +kernel
theorem dL_law_1575 : decode cL_law 1575 = .ok (.iload 6, 2) := by decide +kernel
theorem dL_law_1577 : decode cL_law 1577 = .ok (.if_icmp .eq 5, 3) := by decide +kernel
theorem dL_law_1580 : decode cL_law 1580 = .ok (.iconst 0, 1) := by decide +kernel
theorem dL_law_1581 : decode cL_law 1581 = .ok (.ireturn, 1) := by decide +kernel
theorem dL_law_1582 : decode cL_law 1582 = .ok (.iload 6, 2) := by decide +kernel
theorem dL_law_1584 : decode cL_law 1584 = .ok (.ifCond .ne 15, 3) := by decide +kernel
theorem dL_law_1587 : decode cL_law 1587 = .ok (.aload_n 3, 1) := by decide +kernel
theorem dL_law_1588 : decode cL_law 1588 = .ok (.iconst 0, 1) := by decide +kernel
theorem dL_law_1589 : decode cL_law 1589 = .ok (.laload, 1) := by decide +kernel
theorem dL_law_1590 : decode cL_law 1590 = .ok (.iload 7, 2) := by decide +kernel
theorem dL_law_1592 : decode cL_law 1592 = .ok (.i2l, 1) := by decide +kernel
theorem dL_law_1593 : decode cL_law 1593 = .ok (.lcmp, 1) := by decide +kernel
theorem dL_law_1594 : decode cL_law 1594 = .ok (.ifCond .eq 5, 3) := by decide +kernel
theorem dL_law_1597 : decode cL_law 1597 = .ok (.iconst 0, 1) := by decide +kernel
theorem dL_law_1598 : decode cL_law 1598 = .ok (.ireturn, 1) := by decide +kernel
theorem dL_law_1599 : decode cL_law 1599 = .ok (.goto 400, 3) := by decide +kernel
theorem dL_law_1602 : decode cL_law 1602 = .ok (.aload_n 1, 1) := by decide +kernel
theorem dL_law_1603 : decode cL_law 1603 = .ok (.aload_n 0, 1) := by decide +kernel
theorem dL_law_1604 : decode cL_law 1604 = .ok (.iload 5, 2) := by decide +kernel
theorem dL_law_1606 : decode cL_law 1606 = .ok (.iconst 1, 1) := by decide +kernel
theorem dL_law_1607 : decode cL_law 1607 = .ok (.iadd, 1) := by decide +kernel
theorem dL_law_1608 : decode cL_law 1608 = .ok (.iaload, 1) := by decide +kernel
theorem dL_law_1609 : decode cL_law 1609 = .ok (.aload_n 0, 1) := by decide +kernel
theorem dL_law_1610 : decode cL_law 1610 = .ok (.iload 5, 2) := by decide +kernel
theorem dL_law_1612 : decode cL_law 1612 = .ok (.iconst 2, 1) := by decide +kernel
theorem dL_law_1613 : decode cL_law 1613 = .ok (.iadd, 1) := by decide +kernel
theorem dL_law_1614 : decode cL_law 1614 = .ok (.iaload, 1) := by decide +kernel
theorem dL_law_1615 : decode cL_law 1615 = .ok (.aload_n 3, 1) := by decide +kernel
theorem dL_law_1616 : decode cL_law 1616 = .ok (.invokestatic 210, 3) := by decide +kernel
theorem dL_law_1619 : decode cL_law 1619 = .ok (.istore 6, 2) := by decide +kernel
theorem dL_law_1621 : decode cL_law 1621 = .ok (.aload_n 2, 1) := by decide +kernel
theorem dL_law_1622 : decode cL_law 1622 = .ok (.aload_n 0, 1) := by decide +kernel
theorem dL_law_1623 : decode cL_law 1623 = .ok (.iload 5, 2) := by decide +kernel
theorem dL_law_1625 : decode cL_law 1625 = .ok (.iconst 1, 1) := by decide +kernel
theorem dL_law_1626 : decode cL_law 1626 = .ok (.iadd, 1) := by decide +kernel
theorem dL_law_1627 : decode cL_law 1627 = .ok (.iaload, 1) := by decide +kernel
theorem dL_law_1628 : decode cL_law 1628 = .ok (.aload_n 0, 1) := by decide +kernel
theorem dL_law_1629 : decode cL_law 1629 = .ok (.iload 5, 2) := by decide +kernel
theorem dL_law_1631 : decode cL_law 1631 = .ok (.iconst 2, 1) := by decide +kernel
theorem dL_law_1632 : decode cL_law 1632 = .ok (.iadd, 1) := by decide +kernel
theorem dL_law_1633 : decode cL_law 1633 = .ok (.iaload, 1) := by decide +kernel
theorem dL_law_1634 : decode cL_law 1634 = .ok (.invokevirtual 212, 3) := by decide +kernel
theorem dL_law_1637 : decode cL_law 1637 = .ok (.istore 7, 2) := by decide +kernel
theorem dL_law_1639 : decode cL_law 1639 = .ok (.aload_n 2, 1) := by decide +kernel
theorem dL_law_1640 : decode cL_law 1640 = .ok (.invokevirtual 107, 3) := by decide +kernel
theorem dL_law_1643 : decode cL_law 1643 = .ok (.iload 6, 2) := by decide +kernel
theorem dL_law_1645 : decode cL_law 1645 = .ok (.if_icmp .eq 5, 3) := by decide +kernel
theorem dL_law_1648 : decode cL_law 1648 = .ok (.iconst 0, 1) := by decide +kernel
theorem dL_law_1649 : decode cL_law 1649 = .ok (.ireturn, 1) := by decide +kernel
theorem dL_law_1650 : decode cL_law 1650 = .ok (.iload 6, 2) := by decide +kernel
theorem dL_law_1652 : decode cL_law 1652 = .ok (.ifCond .ne 15, 3) := by decide +kernel
theorem dL_law_1655 : decode cL_law 1655 = .ok (.aload_n 3, 1) := by decide +kernel
theorem dL_law_1656 : decode cL_law 1656 = .ok (.iconst 0, 1) := by decide +kernel
theorem dL_law_1657 : decode cL_law 1657 = .ok (.laload, 1) := by decide +kernel
theorem dL_law_1658 : decode cL_law 1658 = .ok (.iload 7, 2) := by decide +kernel
theorem dL_law_1660 : decode cL_law 1660 = .ok (.i2l, 1) := by decide +kernel
theorem dL_law_1661 : decode cL_law 1661 = .ok (.lcmp, 1) := by decide +kernel
theorem dL_law_1662 : decode cL_law 1662 = .ok (.ifCond .eq 5, 3) := by decide +kernel
theorem dL_law_1665 : decode cL_law 1665 = .ok (.iconst 0, 1) := by decide +kernel
theorem dL_law_1666 : decode cL_law 1666 = .ok (.ireturn, 1) := by decide +kernel
theorem dL_law_1667 : decode cL_law 1667 = .ok (.goto 332, 3) := by decide +kernel
theorem dL_law_1670 : decode cL_law 1670 = .ok (.aload_n 1, 1) := by decide +kernel
theorem dL_law_1671 : decode cL_law 1671 = .ok (.aload_n 0, 1) := by decide +kernel
theorem dL_law_1672 : decode cL_law 1672 = .ok (.iload 5, 2) := by decide +kernel
theorem dL_law_1674 : decode cL_law 1674 = .ok (.iconst 1, 1) := by decide +kernel
theorem dL_law_1675 : decode cL_law 1675 = .ok (.iadd, 1) := by decide +kernel
theorem dL_law_1676 : decode cL_law 1676 = .ok (.iaload, 1) := by decide +kernel
theorem dL_law_1677 : decode cL_law 1677 = .ok (.aload_n 3, 1) := by decide +kernel
theorem dL_law_1678 : decode cL_law 1678 = .ok (.invokestatic 213, 3) := by decide +kernel
theorem dL_law_1681 : decode cL_law 1681 = .ok (.istore 6, 2) := by decide +kernel
theorem dL_law_1683 : decode cL_law 1683 = .ok (.aload_n 2, 1) := by decide +kernel
theorem dL_law_1684 : decode cL_law 1684 = .ok (.aload_n 0, 1) := by decide +kernel
theorem dL_law_1685 : decode cL_law 1685 = .ok (.iload 5, 2) := by decide +kernel
theorem dL_law_1687 : decode cL_law 1687 = .ok (.iconst 1, 1) := by decide +kernel
theorem dL_law_1688 : decode cL_law 1688 = .ok (.iadd, 1) := by decide +kernel
theorem dL_law_1689 : decode cL_law 1689 = .ok (.iaload, 1) := by decide +kernel
theorem dL_law_1690 : decode cL_law 1690 = .ok (.invokevirtual 215, 3) := by decide +kernel
theorem dL_law_1693 : decode cL_law 1693 = .ok (.istore 7, 2) := by decide +kernel
theorem dL_law_1695 : decode cL_law 1695 = .ok (.aload_n 2, 1) := by decide +kernel
theorem dL_law_1696 : decode cL_law 1696 = .ok (.invokevirtual 107, 3) := by decide +kernel
theorem dL_law_1699 : decode cL_law 1699 = .ok (.iload 6, 2) := by decide +kernel
theorem dL_law_1701 : decode cL_law 1701 = .ok (.if_icmp .eq 5, 3) := by decide +kernel
theorem dL_law_1704 : decode cL_law 1704 = .ok (.iconst 0, 1) := by decide +kernel
theorem dL_law_1705 : decode cL_law 1705 = .ok (.ireturn, 1) := by decide +kernel
theorem dL_law_1706 : decode cL_law 1706 = .ok (.iload 6, 2) := by decide +kernel
theorem dL_law_1708 : decode cL_law 1708 = .ok (.ifCond .ne 15, 3) := by decide +kernel
theorem dL_law_1711 : decode cL_law 1711 = .ok (.aload_n 3, 1) := by decide +kernel
theorem dL_law_1712 : decode cL_law 1712 = .ok (.iconst 0, 1) := by decide +kernel
theorem dL_law_1713 : decode cL_law 1713 = .ok (.laload, 1) := by decide +kernel
theorem dL_law_1714 : decode cL_law 1714 = .ok (.iload 7, 2) := by decide +kernel
theorem dL_law_1716 : decode cL_law 1716 = .ok (.i2l, 1) := by decide +kernel
theorem dL_law_1717 : decode cL_law 1717 = .ok (.lcmp, 1) := by decide +kernel
theorem dL_law_1718 : decode cL_law 1718 = .ok (.ifCond .eq 5, 3) := by decide +kernel
theorem dL_law_1721 : decode cL_law 1721 = .ok (.iconst 0, 1) := by decide +kernel
theorem dL_law_1722 : decode cL_law 1722 = .ok (.ireturn, 1) := by decide +kernel
theorem dL_law_1723 : decode cL_law 1723 = .ok (.goto 276, 3) := by decide +kernel
theorem dL_law_1726 : decode cL_law 1726 = .ok (.aload_n 1, 1) := by decide +kernel
theorem dL_law_1727 : decode cL_law 1727 = .ok (.aload_n 0, 1) := by decide +kernel
theorem dL_law_1728 : decode cL_law 1728 = .ok (.iload 5, 2) := by decide +kernel
theorem dL_law_1730 : decode cL_law 1730 = .ok (.iconst 1, 1) := by decide +kernel
theorem dL_law_1731 : decode cL_law 1731 = .ok (.iadd, 1) := by decide +kernel
theorem dL_law_1732 : decode cL_law 1732 = .ok (.iaload, 1) := by decide +kernel
theorem dL_law_1733 : decode cL_law 1733 = .ok (.aload_n 0, 1) := by decide +kernel
theorem dL_law_1734 : decode cL_law 1734 = .ok (.iload 5, 2) := by decide +kernel
theorem dL_law_1736 : decode cL_law 1736 = .ok (.iconst 2, 1) := by decide +kernel
theorem dL_law_1737 : decode cL_law 1737 = .ok (.iadd, 1) := by decide +kernel
theorem dL_law_1738 : decode cL_law 1738 = .ok (.iaload, 1) := by decide +kernel
theorem dL_law_1739 : decode cL_law 1739 = .ok (.aload_n 3, 1) := by decide +kernel
theorem dL_law_1740 : decode cL_law 1740 = .ok (.invokestatic 216, 3) := by decide +kernel
theorem dL_law_1743 : decode cL_law 1743 = .ok (.istore 6, 2) := by decide +kernel
theorem dL_law_1745 : decode cL_law 1745 = .ok (.aload_n 2, 1) := by decide +kernel
theorem dL_law_1746 : decode cL_law 1746 = .ok (.aload_n 0, 1) := by decide +kernel
theorem dL_law_1747 : decode cL_law 1747 = .ok (.iload 5, 2) := by decide +kernel
theorem dL_law_1749 : decode cL_law 1749 = .ok (.iconst 1, 1) := by decide +kernel
theorem dL_law_1750 : decode cL_law 1750 = .ok (.iadd, 1) := by decide +kernel
theorem dL_law_1751 : decode cL_law 1751 = .ok (.iaload, 1) := by decide +kernel
theorem dL_law_1752 : decode cL_law 1752 = .ok (.aload_n 0, 1) := by decide +kernel
theorem dL_law_1753 : decode cL_law 1753 = .ok (.iload 5, 2) := by decide +kernel
theorem dL_law_1755 : decode cL_law 1755 = .ok (.iconst 2, 1) := by decide +kernel
theorem dL_law_1756 : decode cL_law 1756 = .ok (.iadd, 1) := by decide +kernel
theorem dL_law_1757 : decode cL_law 1757 = .ok (.iaload, 1) := by decide +kernel
theorem dL_law_1758 : decode cL_law 1758 = .ok (.invokevirtual 218, 3) := by decide +kernel
theorem dL_law_1761 : decode cL_law 1761 = .ok (.istore 7, 2) := by decide +kernel
theorem dL_law_1763 : decode cL_law 1763 = .ok (.aload_n 2, 1) := by decide +kernel
theorem dL_law_1764 : decode cL_law 1764 = .ok (.invokevirtual 107, 3) := by decide +kernel
theorem dL_law_1767 : decode cL_law 1767 = .ok (.iload 6, 2) := by decide +kernel
theorem dL_law_1769 : decode cL_law 1769 = .ok (.if_icmp .eq 5, 3) := by decide +kernel
theorem dL_law_1772 : decode cL_law 1772 = .ok (.iconst 0, 1) := by decide +kernel
theorem dL_law_1773 : decode cL_law 1773 = .ok (.ireturn, 1) := by decide +kernel
theorem dL_law_1774 : decode cL_law 1774 = .ok (.iload 6, 2) := by decide +kernel
theorem dL_law_1776 : decode cL_law 1776 = .ok (.ifCond .ne 15, 3) := by decide +kernel
theorem dL_law_1779 : decode cL_law 1779 = .ok (.aload_n 3, 1) := by decide +kernel
theorem dL_law_1780 : decode cL_law 1780 = .ok (.iconst 0, 1) := by decide +kernel
theorem dL_law_1781 : decode cL_law 1781 = .ok (.laload, 1) := by decide +kernel
theorem dL_law_1782 : decode cL_law 1782 = .ok (.iload 7, 2) := by decide +kernel
theorem dL_law_1784 : decode cL_law 1784 = .ok (.i2l, 1) := by decide +kernel
theorem dL_law_1785 : decode cL_law 1785 = .ok (.lcmp, 1) := by decide +kernel
theorem dL_law_1786 : decode cL_law 1786 = .ok (.ifCond .eq 5, 3) := by decide +kernel
theorem dL_law_1789 : decode cL_law 1789 = .ok (.iconst 0, 1) := by decide +kernel
theorem dL_law_1790 : decode cL_law 1790 = .ok (.ireturn, 1) := by decide +kernel
theorem dL_law_1791 : decode cL_law 1791 = .ok (.goto 208, 3) := by decide +kernel
theorem dL_law_1794 : decode cL_law 1794 = .ok (.aload_n 1, 1) := by decide +kernel
theorem dL_law_1795 : decode cL_law 1795 = .ok (.aload_n 3, 1) := by decide +kernel
theorem dL_law_1796 : decode cL_law 1796 = .ok (.invokestatic 219, 3) := by decide +kernel
theorem dL_law_1799 : decode cL_law 1799 = .ok (.istore 6, 2) := by decide +kernel
theorem dL_law_1801 : decode cL_law 1801 = .ok (.aload_n 2, 1) := by decide +kernel
theorem dL_law_1802 : decode cL_law 1802 = .ok (.invokevirtual 222, 3) := by decide +kernel
theorem dL_law_1805 : decode cL_law 1805 = .ok (.istore 7, 2) := by decide +kernel
theorem dL_law_1807 : decode cL_law 1807 = .ok (.aload_n 2, 1) := by decide +kernel
theorem dL_law_1808 : decode cL_law 1808 = .ok (.invokevirtual 107, 3) := by decide +kernel
theorem dL_law_1811 : decode cL_law 1811 = .ok (.iload 6, 2) := by decide +kernel
theorem dL_law_1813 : decode cL_law 1813 = .ok (.if_icmp .eq 5, 3) := by decide +kernel
theorem dL_law_1816 : decode cL_law 1816 = .ok (.iconst 0, 1) := by decide +kernel
theorem dL_law_1817 : decode cL_law 1817 = .ok (.ireturn, 1) := by decide +kernel
theorem dL_law_1818 : decode cL_law 1818 = .ok (.iload 6, 2) := by decide +kernel
theorem dL_law_1820 : decode cL_law 1820 = .ok (.ifCond .ne 15, 3) := by decide +kernel
theorem dL_law_1823 : decode cL_law 1823 = .ok (.aload_n 3, 1) := by decide +kernel
theorem dL_law_1824 : decode cL_law 1824 = .ok (.iconst 0, 1) := by decide +kernel
theorem dL_law_1825 : decode cL_law 1825 = .ok (.laload, 1) := by decide +kernel
theorem dL_law_1826 : decode cL_law 1826 = .ok (.iload 7, 2) := by decide +kernel
theorem dL_law_1828 : decode cL_law 1828 = .ok (.i2l, 1) := by decide +kernel
theorem dL_law_1829 : decode cL_law 1829 = .ok (.lcmp, 1) := by decide +kernel
theorem dL_law_1830 : decode cL_law 1830 = .ok (.ifCond .eq 5, 3) := by decide +kernel
theorem dL_law_1833 : decode cL_law 1833 = .ok (.iconst 0, 1) := by decide +kernel
theorem dL_law_1834 : decode cL_law 1834 = .ok (.ireturn, 1) := by decide +kernel
theorem dL_law_1835 : decode cL_law 1835 = .ok (.goto 164, 3) := by decide +kernel
theorem dL_law_1838 : decode cL_law 1838 = .ok (.aload_n 1, 1) := by decide +kernel
theorem dL_law_1839 : decode cL_law 1839 = .ok (.aload_n 0, 1) := by decide +kernel
theorem dL_law_1840 : decode cL_law 1840 = .ok (.iload 5, 2) := by decide +kernel
theorem dL_law_1842 : decode cL_law 1842 = .ok (.iconst 1, 1) := by decide +kernel
theorem dL_law_1843 : decode cL_law 1843 = .ok (.iadd, 1) := by decide +kernel
theorem dL_law_1844 : decode cL_law 1844 = .ok (.iaload, 1) := by decide +kernel
theorem dL_law_1845 : decode cL_law 1845 = .ok (.invokestatic 223, 3) := by decide +kernel
theorem dL_law_1848 : decode cL_law 1848 = .ok (.istore 6, 2) := by decide +kernel
theorem dL_law_1850 : decode cL_law 1850 = .ok (.aload_n 2, 1) := by decide +kernel
theorem dL_law_1851 : decode cL_law 1851 = .ok (.aload_n 0, 1) := by decide +kernel
theorem dL_law_1852 : decode cL_law 1852 = .ok (.iload 5, 2) := by decide +kernel
theorem dL_law_1854 : decode cL_law 1854 = .ok (.iconst 1, 1) := by decide +kernel
theorem dL_law_1855 : decode cL_law 1855 = .ok (.iadd, 1) := by decide +kernel
theorem dL_law_1856 : decode cL_law 1856 = .ok (.iaload, 1) := by decide +kernel
theorem dL_law_1857 : decode cL_law 1857 = .ok (.invokevirtual 226, 3) := by decide +kernel
theorem dL_law_1860 : decode cL_law 1860 = .ok (.aload_n 2, 1) := by decide +kernel
theorem dL_law_1861 : decode cL_law 1861 = .ok (.invokevirtual 107, 3) := by decide +kernel
theorem dL_law_1864 : decode cL_law 1864 = .ok (.iload 6, 2) := by decide +kernel
theorem dL_law_1866 : decode cL_law 1866 = .ok (.if_icmp .eq 5, 3) := by decide +kernel
theorem dL_law_1869 : decode cL_law 1869 = .ok (.iconst 0, 1) := by decide +kernel
theorem dL_law_1870 : decode cL_law 1870 = .ok (.ireturn, 1) := by decide +kernel
theorem dL_law_1871 : decode cL_law 1871 = .ok (.goto 128, 3) := by decide +kernel
theorem dL_law_1874 : decode cL_law 1874 = .ok (.aload_n 1, 1) := by decide +kernel
theorem dL_law_1875 : decode cL_law 1875 = .ok (.aload_n 0, 1) := by decide +kernel
theorem dL_law_1876 : decode cL_law 1876 = .ok (.iload 5, 2) := by decide +kernel
theorem dL_law_1878 : decode cL_law 1878 = .ok (.iconst 1, 1) := by decide +kernel
theorem dL_law_1879 : decode cL_law 1879 = .ok (.iadd, 1) := by decide +kernel
theorem dL_law_1880 : decode cL_law 1880 = .ok (.iaload, 1) := by decide +kernel
theorem dL_law_1881 : decode cL_law 1881 = .ok (.aload_n 3, 1) := by decide +kernel
theorem dL_law_1882 : decode cL_law 1882 = .ok (.invokestatic 227, 3) := by decide +kernel
theorem dL_law_1885 : decode cL_law 1885 = .ok (.istore 6, 2) := by decide +kernel
theorem dL_law_1887 : decode cL_law 1887 = .ok (.aload_n 2, 1) := by decide +kernel
theorem dL_law_1888 : decode cL_law 1888 = .ok (.aload_n 0, 1) := by decide +kernel
theorem dL_law_1889 : decode cL_law 1889 = .ok (.iload 5, 2) := by decide +kernel
theorem dL_law_1891 : decode cL_law 1891 = .ok (.iconst 1, 1) := by decide +kernel
theorem dL_law_1892 : decode cL_law 1892 = .ok (.iadd, 1) := by decide +kernel
theorem dL_law_1893 : decode cL_law 1893 = .ok (.iaload, 1) := by decide +kernel
theorem dL_law_1894 : decode cL_law 1894 = .ok (.invokevirtual 229, 3) := by decide +kernel
theorem dL_law_1897 : decode cL_law 1897 = .ok (.istore 7, 2) := by decide +kernel
theorem dL_law_1899 : decode cL_law 1899 = .ok (.aload_n 2, 1) := by decide +kernel
theorem dL_law_1900 : decode cL_law 1900 = .ok (.invokevirtual 107, 3) := by decide +kernel
theorem dL_law_1903 : decode cL_law 1903 = .ok (.iload 6, 2) := by decide +kernel
theorem dL_law_1905 : decode cL_law 1905 = .ok (.if_icmp .eq 5, 3) := by decide +kernel
theorem dL_law_1908 : decode cL_law 1908 = .ok (.iconst 0, 1) := by decide +kernel
theorem dL_law_1909 : decode cL_law 1909 = .ok (.ireturn, 1) := by decide +kernel
theorem dL_law_1910 : decode cL_law 1910 = .ok (.iload 6, 2) := by decide +kernel
theorem dL_law_1912 : decode cL_law 1912 = .ok (.ifCond .ne 15, 3) := by decide +kernel
theorem dL_law_1915 : decode cL_law 1915 = .ok (.aload_n 3, 1) := by decide +kernel
theorem dL_law_1916 : decode cL_law 1916 = .ok (.iconst 0, 1) := by decide +kernel
theorem dL_law_1917 : decode cL_law 1917 = .ok (.laload, 1) := by decide +kernel
theorem dL_law_1918 : decode cL_law 1918 = .ok (.iload 7, 2) := by decide +kernel
theorem dL_law_1920 : decode cL_law 1920 = .ok (.i2l, 1) := by decide +kernel
theorem dL_law_1921 : decode cL_law 1921 = .ok (.lcmp, 1) := by decide +kernel
theorem dL_law_1922 : decode cL_law 1922 = .ok (.ifCond .eq 5, 3) := by decide +kernel
theorem dL_law_1925 : decode cL_law 1925 = .ok (.iconst 0, 1) := by decide +kernel
theorem dL_law_1926 : decode cL_law 1926 = .ok (.ireturn, 1) := by decide +kernel
theorem dL_law_1927 : decode cL_law 1927 = .ok (.goto 72, 3) := by decide +kernel
theorem dL_law_1930 : decode cL_law 1930 = .ok (.aload_n 1, 1) := by decide +kernel
theorem dL_law_1931 : decode cL_law 1931 = .ok (.invokevirtual 230, 3) := by decide +kernel
theorem dL_law_1934 : decode cL_law 1934 = .ok (.aload_n 2, 1) := by decide +kernel
theorem dL_law_1935 : decode cL_law 1935 = .ok (.invokevirtual 233, 3) := by decide +kernel
theorem dL_law_1938 : decode cL_law 1938 = .ok (.if_icmp .eq 61, 3) := by decide +kernel
theorem dL_law_1941 : decode cL_law 1941 = .ok (.iconst 0, 1) := by decide +kernel
theorem dL_law_1942 : decode cL_law 1942 = .ok (.ireturn, 1) := by decide +kernel
theorem dL_law_1943 : decode cL_law 1943 = .ok (.aload_n 1, 1) := by decide +kernel
theorem dL_law_1944 : decode cL_law 1944 = .ok (.aload_n 0, 1) := by decide +kernel
theorem dL_law_1945 : decode cL_law 1945 = .ok (.iload 5, 2) := by decide +kernel
theorem dL_law_1947 : decode cL_law 1947 = .ok (.iconst 1, 1) := by decide +kernel
theorem dL_law_1948 : decode cL_law 1948 = .ok (.iadd, 1) := by decide +kernel
theorem dL_law_1949 : decode cL_law 1949 = .ok (.iaload, 1) := by decide +kernel
theorem dL_law_1950 : decode cL_law 1950 = .ok (.aload_n 3, 1) := by decide +kernel
theorem dL_law_1951 : decode cL_law 1951 = .ok (.invokestatic 234, 3) := by decide +kernel
theorem dL_law_1954 : decode cL_law 1954 = .ok (.istore 6, 2) := by decide +kernel
theorem dL_law_1956 : decode cL_law 1956 = .ok (.aload_n 2, 1) := by decide +kernel
theorem dL_law_1957 : decode cL_law 1957 = .ok (.aload_n 0, 1) := by decide +kernel
theorem dL_law_1958 : decode cL_law 1958 = .ok (.iload 5, 2) := by decide +kernel
theorem dL_law_1960 : decode cL_law 1960 = .ok (.iconst 1, 1) := by decide +kernel
theorem dL_law_1961 : decode cL_law 1961 = .ok (.iadd, 1) := by decide +kernel
theorem dL_law_1962 : decode cL_law 1962 = .ok (.iaload, 1) := by decide +kernel
theorem dL_law_1963 : decode cL_law 1963 = .ok (.invokevirtual 236, 3) := by decide +kernel
theorem dL_law_1966 : decode cL_law 1966 = .ok (.istore 7, 2) := by decide +kernel
theorem dL_law_1968 : decode cL_law 1968 = .ok (.aload_n 2, 1) := by decide +kernel
theorem dL_law_1969 : decode cL_law 1969 = .ok (.invokevirtual 107, 3) := by decide +kernel
theorem dL_law_1972 : decode cL_law 1972 = .ok (.iload 6, 2) := by decide +kernel
theorem dL_law_1974 : decode cL_law 1974 = .ok (.if_icmp .eq 5, 3) := by decide +kernel
theorem dL_law_1977 : decode cL_law 1977 = .ok (.iconst 0, 1) := by decide +kernel
theorem dL_law_1978 : decode cL_law 1978 = .ok (.ireturn, 1) := by decide +kernel
theorem dL_law_1979 : decode cL_law 1979 = .ok (.iload 6, 2) := by decide +kernel
theorem dL_law_1981 : decode cL_law 1981 = .ok (.ifCond .ne 15, 3) := by decide +kernel
theorem dL_law_1984 : decode cL_law 1984 = .ok (.aload_n 3, 1) := by decide +kernel
theorem dL_law_1985 : decode cL_law 1985 = .ok (.iconst 0, 1) := by decide +kernel
theorem dL_law_1986 : decode cL_law 1986 = .ok (.laload, 1) := by decide +kernel
theorem dL_law_1987 : decode cL_law 1987 = .ok (.iload 7, 2) := by decide +kernel
theorem dL_law_1989 : decode cL_law 1989 = .ok (.i2l, 1) := by decide +kernel
theorem dL_law_1990 : decode cL_law 1990 = .ok (.lcmp, 1) := by decide +kernel
theorem dL_law_1991 : decode cL_law 1991 = .ok (.ifCond .eq 5, 3) := by decide +kernel
theorem dL_law_1994 : decode cL_law 1994 = .ok (.iconst 0, 1) := by decide +kernel
theorem dL_law_1995 : decode cL_law 1995 = .ok (.ireturn, 1) := by decide +kernel
theorem dL_law_1996 : decode cL_law 1996 = .ok (.goto 3, 3) := by decide +kernel
theorem dL_law_1999 : decode cL_law 1999 = .ok (.iinc 5 6, 3) := by decide +kernel
theorem dL_law_2002 : decode cL_law 2002 = .ok (.goto (-1974), 3) := by decide +kernel
theorem dL_law_2005 : decode cL_law 2005 = .ok (.iconst 1, 1) := by decide +kernel
theorem dL_law_2006 : decode cL_law 2006 = .ok (.ireturn, 1) := by decide +kernel
end
