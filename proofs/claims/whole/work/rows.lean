section
-- ===== PART A: goes FIRST, ahead of the names: the tables' words, and 'selects' of the private methods out of them =====
/-- a private method of a class that the tables say can be made, by its rows of tables_1 -/
def lw_okq (q : MethodName × Nat) : Prop := (q.1.cls ≠ "java/lang/invoke/MethodHandle" ∧ q.1.cls ≠ "java/lang/invoke/VarHandle") ∧ Cond.instantiable q.1.cls q.2 ∈ tables_1 ∧ Cond.privateMethod q.1 ∈ tables_1 ∧ Cond.instanceMethod q.1 ∈ tables_1
theorem lw_p0 : lw_okq (⟨"java/lang/Throwable", "fillInStackTrace", "(I)Ljava/lang/Throwable;"⟩, 6) := ⟨⟨by decide +kernel, by decide +kernel⟩, List.mem_of_getElem? (i := 436) (by decide +kernel), List.mem_of_getElem? (i := 434) (by decide +kernel), List.mem_of_getElem? (i := 435) (by decide +kernel)⟩
theorem lw_p1 : lw_okq (⟨"LoadRoom$Piece", "counts", "(I)Z"⟩, 10) := ⟨⟨by decide +kernel, by decide +kernel⟩, List.mem_of_getElem? (i := 67) (by decide +kernel), List.mem_of_getElem? (i := 509) (by decide +kernel), List.mem_of_getElem? (i := 510) (by decide +kernel)⟩
theorem lw_p2 : lw_okq (⟨"LoadRoom$Piece", "allows", "(I)Z"⟩, 10) := ⟨⟨by decide +kernel, by decide +kernel⟩, List.mem_of_getElem? (i := 67) (by decide +kernel), List.mem_of_getElem? (i := 513) (by decide +kernel), List.mem_of_getElem? (i := 514) (by decide +kernel)⟩
theorem lw_p3 : lw_okq (⟨"LoadRoom$Piece", "looksAlike", "(II)Z"⟩, 10) := ⟨⟨by decide +kernel, by decide +kernel⟩, List.mem_of_getElem? (i := 67) (by decide +kernel), List.mem_of_getElem? (i := 517) (by decide +kernel), List.mem_of_getElem? (i := 518) (by decide +kernel)⟩
theorem lw_p4 : lw_okq (⟨"LoadRoom$Piece", "goesIn", "(I)Z"⟩, 10) := ⟨⟨by decide +kernel, by decide +kernel⟩, List.mem_of_getElem? (i := 67) (by decide +kernel), List.mem_of_getElem? (i := 533) (by decide +kernel), List.mem_of_getElem? (i := 534) (by decide +kernel)⟩
theorem lw_p5 : lw_okq (⟨"LoadRoom$Search", "layFloors", "(I)V"⟩, 11) := ⟨⟨by decide +kernel, by decide +kernel⟩, List.mem_of_getElem? (i := 123) (by decide +kernel), List.mem_of_getElem? (i := 611) (by decide +kernel), List.mem_of_getElem? (i := 612) (by decide +kernel)⟩
theorem lw_p6 : lw_okq (⟨"LoadRoom$Floor", "widen", "(LLoadRoom$Placed;)V"⟩, 6) := ⟨⟨by decide +kernel, by decide +kernel⟩, List.mem_of_getElem? (i := 256) (by decide +kernel), List.mem_of_getElem? (i := 632) (by decide +kernel), List.mem_of_getElem? (i := 633) (by decide +kernel)⟩
theorem lw_p7 : lw_okq (⟨"LoadRoom$Search", "tryFloors", "(LLoadRoom$Placed;)V"⟩, 11) := ⟨⟨by decide +kernel, by decide +kernel⟩, List.mem_of_getElem? (i := 123) (by decide +kernel), List.mem_of_getElem? (i := 649) (by decide +kernel), List.mem_of_getElem? (i := 650) (by decide +kernel)⟩
theorem lw_p8 : lw_okq (⟨"LoadRoom$Search", "tryPlaces", "(LLoadRoom$Placed;LLoadRoom$Floor;)V"⟩, 11) := ⟨⟨by decide +kernel, by decide +kernel⟩, List.mem_of_getElem? (i := 123) (by decide +kernel), List.mem_of_getElem? (i := 661) (by decide +kernel), List.mem_of_getElem? (i := 662) (by decide +kernel)⟩
theorem lw_p9 : lw_okq (⟨"LoadRoom$Row", "isRising", "(LLoadRoom$Placed;)Z"⟩, 4) := ⟨⟨by decide +kernel, by decide +kernel⟩, List.mem_of_getElem? (i := 129) (by decide +kernel), List.mem_of_getElem? (i := 682) (by decide +kernel), List.mem_of_getElem? (i := 683) (by decide +kernel)⟩
theorem lw_p10 : lw_okq (⟨"LoadRoom$Row", "letsStand", "(LLoadRoom$Placed;)Z"⟩, 4) := ⟨⟨by decide +kernel, by decide +kernel⟩, List.mem_of_getElem? (i := 129) (by decide +kernel), List.mem_of_getElem? (i := 690) (by decide +kernel), List.mem_of_getElem? (i := 691) (by decide +kernel)⟩
theorem lw_p11 : lw_okq (⟨"LoadRoom$Row", "hasRoom", "(LLoadRoom$Placed;)Z"⟩, 4) := ⟨⟨by decide +kernel, by decide +kernel⟩, List.mem_of_getElem? (i := 129) (by decide +kernel), List.mem_of_getElem? (i := 700) (by decide +kernel), List.mem_of_getElem? (i := 701) (by decide +kernel)⟩
theorem lw_p12 : lw_okq (⟨"LoadRoom$Row", "carries", "(LLoadRoom$Placed;)Z"⟩, 4) := ⟨⟨by decide +kernel, by decide +kernel⟩, List.mem_of_getElem? (i := 129) (by decide +kernel), List.mem_of_getElem? (i := 708) (by decide +kernel), List.mem_of_getElem? (i := 709) (by decide +kernel)⟩
theorem lw_p13 : lw_okq (⟨"LoadRoom$Row", "letsOut", "(LLoadRoom$Placed;)Z"⟩, 4) := ⟨⟨by decide +kernel, by decide +kernel⟩, List.mem_of_getElem? (i := 129) (by decide +kernel), List.mem_of_getElem? (i := 716) (by decide +kernel), List.mem_of_getElem? (i := 717) (by decide +kernel)⟩
theorem lw_p14 : lw_okq (⟨"LoadRoom$Search", "meet", "(LLoadRoom$Placed;)V"⟩, 11) := ⟨⟨by decide +kernel, by decide +kernel⟩, List.mem_of_getElem? (i := 123) (by decide +kernel), List.mem_of_getElem? (i := 724) (by decide +kernel), List.mem_of_getElem? (i := 725) (by decide +kernel)⟩
theorem lw_p15 : lw_okq (⟨"LoadRoom$Row", "reckon", "(LLoadRoom$Placed;I)V"⟩, 4) := ⟨⟨by decide +kernel, by decide +kernel⟩, List.mem_of_getElem? (i := 129) (by decide +kernel), List.mem_of_getElem? (i := 732) (by decide +kernel), List.mem_of_getElem? (i := 733) (by decide +kernel)⟩
def lw_privs_1 : List (MethodName × Nat) := [(⟨"java/lang/Throwable", "fillInStackTrace", "(I)Ljava/lang/Throwable;"⟩, 6), (⟨"LoadRoom$Piece", "counts", "(I)Z"⟩, 10), (⟨"LoadRoom$Piece", "allows", "(I)Z"⟩, 10), (⟨"LoadRoom$Piece", "looksAlike", "(II)Z"⟩, 10), (⟨"LoadRoom$Piece", "goesIn", "(I)Z"⟩, 10), (⟨"LoadRoom$Search", "layFloors", "(I)V"⟩, 11), (⟨"LoadRoom$Floor", "widen", "(LLoadRoom$Placed;)V"⟩, 6), (⟨"LoadRoom$Search", "tryFloors", "(LLoadRoom$Placed;)V"⟩, 11), (⟨"LoadRoom$Search", "tryPlaces", "(LLoadRoom$Placed;LLoadRoom$Floor;)V"⟩, 11), (⟨"LoadRoom$Row", "isRising", "(LLoadRoom$Placed;)Z"⟩, 4), (⟨"LoadRoom$Row", "letsStand", "(LLoadRoom$Placed;)Z"⟩, 4), (⟨"LoadRoom$Row", "hasRoom", "(LLoadRoom$Placed;)Z"⟩, 4), (⟨"LoadRoom$Row", "carries", "(LLoadRoom$Placed;)Z"⟩, 4), (⟨"LoadRoom$Row", "letsOut", "(LLoadRoom$Placed;)Z"⟩, 4), (⟨"LoadRoom$Search", "meet", "(LLoadRoom$Placed;)V"⟩, 11), (⟨"LoadRoom$Row", "reckon", "(LLoadRoom$Placed;I)V"⟩, 4)]
theorem lw_r1 : ∀ q ∈ lw_privs_1, lw_okq q := List.forall_mem_cons.mpr ⟨lw_p0, List.forall_mem_cons.mpr ⟨lw_p1, List.forall_mem_cons.mpr ⟨lw_p2, List.forall_mem_cons.mpr ⟨lw_p3, List.forall_mem_cons.mpr ⟨lw_p4, List.forall_mem_cons.mpr ⟨lw_p5, List.forall_mem_cons.mpr ⟨lw_p6, List.forall_mem_cons.mpr ⟨lw_p7, List.forall_mem_cons.mpr ⟨lw_p8, List.forall_mem_cons.mpr ⟨lw_p9, List.forall_mem_cons.mpr ⟨lw_p10, List.forall_mem_cons.mpr ⟨lw_p11, List.forall_mem_cons.mpr ⟨lw_p12, List.forall_mem_cons.mpr ⟨lw_p13, List.forall_mem_cons.mpr ⟨lw_p14, List.forall_mem_cons.mpr ⟨lw_p15, fun _ h => absurd h List.not_mem_nil⟩⟩⟩⟩⟩⟩⟩⟩⟩⟩⟩⟩⟩⟩⟩⟩
theorem lw_p16 : lw_okq (⟨"LoadRoom$Axles", "gap", "(I)I"⟩, 2) := ⟨⟨by decide +kernel, by decide +kernel⟩, List.mem_of_getElem? (i := 324) (by decide +kernel), List.mem_of_getElem? (i := 839) (by decide +kernel), List.mem_of_getElem? (i := 840) (by decide +kernel)⟩
theorem lw_p17 : lw_okq (⟨"LoadRoom$Axles", "sumFromBefore", "(ILLoadRoom$Row;)J"⟩, 2) := ⟨⟨by decide +kernel, by decide +kernel⟩, List.mem_of_getElem? (i := 324) (by decide +kernel), List.mem_of_getElem? (i := 844) (by decide +kernel), List.mem_of_getElem? (i := 845) (by decide +kernel)⟩
theorem lw_p18 : lw_okq (⟨"LoadRoom$Axles", "firstOfTwo", "(I)I"⟩, 2) := ⟨⟨by decide +kernel, by decide +kernel⟩, List.mem_of_getElem? (i := 324) (by decide +kernel), List.mem_of_getElem? (i := 848) (by decide +kernel), List.mem_of_getElem? (i := 849) (by decide +kernel)⟩
theorem lw_p19 : lw_okq (⟨"LoadRoom$Axles", "sumFromBehind", "(ILLoadRoom$Row;)J"⟩, 2) := ⟨⟨by decide +kernel, by decide +kernel⟩, List.mem_of_getElem? (i := 324) (by decide +kernel), List.mem_of_getElem? (i := 852) (by decide +kernel), List.mem_of_getElem? (i := 853) (by decide +kernel)⟩
theorem lw_p20 : lw_okq (⟨"LoadRoomModel", "unpack", "()V"⟩, 34) := ⟨⟨by decide +kernel, by decide +kernel⟩, List.mem_of_getElem? (i := 865) (by decide +kernel), List.mem_of_getElem? (i := 989) (by decide +kernel), List.mem_of_getElem? (i := 990) (by decide +kernel)⟩
theorem lw_p21 : lw_okq (⟨"LoadRoomModel", "isPiece", "(I)Z"⟩, 34) := ⟨⟨by decide +kernel, by decide +kernel⟩, List.mem_of_getElem? (i := 865) (by decide +kernel), List.mem_of_getElem? (i := 997) (by decide +kernel), List.mem_of_getElem? (i := 998) (by decide +kernel)⟩
theorem lw_p22 : lw_okq (⟨"LoadRoomModel", "fitting", "(I)I"⟩, 34) := ⟨⟨by decide +kernel, by decide +kernel⟩, List.mem_of_getElem? (i := 865) (by decide +kernel), List.mem_of_getElem? (i := 1013) (by decide +kernel), List.mem_of_getElem? (i := 1014) (by decide +kernel)⟩
theorem lw_p23 : lw_okq (⟨"LoadRoomModel", "turnFits", "(II)Z"⟩, 34) := ⟨⟨by decide +kernel, by decide +kernel⟩, List.mem_of_getElem? (i := 865) (by decide +kernel), List.mem_of_getElem? (i := 1017) (by decide +kernel), List.mem_of_getElem? (i := 1018) (by decide +kernel)⟩
theorem lw_p24 : lw_okq (⟨"LoadRoomModel", "isAllowed", "(II)Z"⟩, 34) := ⟨⟨by decide +kernel, by decide +kernel⟩, List.mem_of_getElem? (i := 865) (by decide +kernel), List.mem_of_getElem? (i := 1021) (by decide +kernel), List.mem_of_getElem? (i := 1022) (by decide +kernel)⟩
theorem lw_p25 : lw_okq (⟨"LoadRoomModel", "isLike", "(III)Z"⟩, 34) := ⟨⟨by decide +kernel, by decide +kernel⟩, List.mem_of_getElem? (i := 865) (by decide +kernel), List.mem_of_getElem? (i := 1025) (by decide +kernel), List.mem_of_getElem? (i := 1026) (by decide +kernel)⟩
theorem lw_p26 : lw_okq (⟨"LoadRoomModel", "volume", "(I)I"⟩, 34) := ⟨⟨by decide +kernel, by decide +kernel⟩, List.mem_of_getElem? (i := 865) (by decide +kernel), List.mem_of_getElem? (i := 1036) (by decide +kernel), List.mem_of_getElem? (i := 1037) (by decide +kernel)⟩
theorem lw_p27 : lw_okq (⟨"LoadRoomModel", "open", "()V"⟩, 34) := ⟨⟨by decide +kernel, by decide +kernel⟩, List.mem_of_getElem? (i := 865) (by decide +kernel), List.mem_of_getElem? (i := 1044) (by decide +kernel), List.mem_of_getElem? (i := 1045) (by decide +kernel)⟩
theorem lw_p28 : lw_okq (⟨"LoadRoomModel", "findNext", "()Z"⟩, 34) := ⟨⟨by decide +kernel, by decide +kernel⟩, List.mem_of_getElem? (i := 865) (by decide +kernel), List.mem_of_getElem? (i := 1048) (by decide +kernel), List.mem_of_getElem? (i := 1049) (by decide +kernel)⟩
theorem lw_p29 : lw_okq (⟨"LoadRoomModel", "cornerX", "(I)I"⟩, 34) := ⟨⟨by decide +kernel, by decide +kernel⟩, List.mem_of_getElem? (i := 865) (by decide +kernel), List.mem_of_getElem? (i := 1052) (by decide +kernel), List.mem_of_getElem? (i := 1053) (by decide +kernel)⟩
theorem lw_p30 : lw_okq (⟨"LoadRoomModel", "cornerY", "(I)I"⟩, 34) := ⟨⟨by decide +kernel, by decide +kernel⟩, List.mem_of_getElem? (i := 865) (by decide +kernel), List.mem_of_getElem? (i := 1056) (by decide +kernel), List.mem_of_getElem? (i := 1057) (by decide +kernel)⟩
theorem lw_p31 : lw_okq (⟨"LoadRoomModel", "cornerZ", "(I)I"⟩, 34) := ⟨⟨by decide +kernel, by decide +kernel⟩, List.mem_of_getElem? (i := 865) (by decide +kernel), List.mem_of_getElem? (i := 1060) (by decide +kernel), List.mem_of_getElem? (i := 1061) (by decide +kernel)⟩
def lw_privs_2 : List (MethodName × Nat) := [(⟨"LoadRoom$Axles", "gap", "(I)I"⟩, 2), (⟨"LoadRoom$Axles", "sumFromBefore", "(ILLoadRoom$Row;)J"⟩, 2), (⟨"LoadRoom$Axles", "firstOfTwo", "(I)I"⟩, 2), (⟨"LoadRoom$Axles", "sumFromBehind", "(ILLoadRoom$Row;)J"⟩, 2), (⟨"LoadRoomModel", "unpack", "()V"⟩, 34), (⟨"LoadRoomModel", "isPiece", "(I)Z"⟩, 34), (⟨"LoadRoomModel", "fitting", "(I)I"⟩, 34), (⟨"LoadRoomModel", "turnFits", "(II)Z"⟩, 34), (⟨"LoadRoomModel", "isAllowed", "(II)Z"⟩, 34), (⟨"LoadRoomModel", "isLike", "(III)Z"⟩, 34), (⟨"LoadRoomModel", "volume", "(I)I"⟩, 34), (⟨"LoadRoomModel", "open", "()V"⟩, 34), (⟨"LoadRoomModel", "findNext", "()Z"⟩, 34), (⟨"LoadRoomModel", "cornerX", "(I)I"⟩, 34), (⟨"LoadRoomModel", "cornerY", "(I)I"⟩, 34), (⟨"LoadRoomModel", "cornerZ", "(I)I"⟩, 34)]
theorem lw_r2 : ∀ q ∈ lw_privs_2, lw_okq q := List.forall_mem_cons.mpr ⟨lw_p16, List.forall_mem_cons.mpr ⟨lw_p17, List.forall_mem_cons.mpr ⟨lw_p18, List.forall_mem_cons.mpr ⟨lw_p19, List.forall_mem_cons.mpr ⟨lw_p20, List.forall_mem_cons.mpr ⟨lw_p21, List.forall_mem_cons.mpr ⟨lw_p22, List.forall_mem_cons.mpr ⟨lw_p23, List.forall_mem_cons.mpr ⟨lw_p24, List.forall_mem_cons.mpr ⟨lw_p25, List.forall_mem_cons.mpr ⟨lw_p26, List.forall_mem_cons.mpr ⟨lw_p27, List.forall_mem_cons.mpr ⟨lw_p28, List.forall_mem_cons.mpr ⟨lw_p29, List.forall_mem_cons.mpr ⟨lw_p30, List.forall_mem_cons.mpr ⟨lw_p31, fun _ h => absurd h List.not_mem_nil⟩⟩⟩⟩⟩⟩⟩⟩⟩⟩⟩⟩⟩⟩⟩⟩
theorem lw_p32 : lw_okq (⟨"LoadRoomModel", "mayCome", "(IIII)Z"⟩, 34) := ⟨⟨by decide +kernel, by decide +kernel⟩, List.mem_of_getElem? (i := 865) (by decide +kernel), List.mem_of_getElem? (i := 1064) (by decide +kernel), List.mem_of_getElem? (i := 1065) (by decide +kernel)⟩
theorem lw_p33 : lw_okq (⟨"LoadRoomModel", "rises", "(III)Z"⟩, 34) := ⟨⟨by decide +kernel, by decide +kernel⟩, List.mem_of_getElem? (i := 865) (by decide +kernel), List.mem_of_getElem? (i := 1068) (by decide +kernel), List.mem_of_getElem? (i := 1069) (by decide +kernel)⟩
theorem lw_p34 : lw_okq (⟨"LoadRoomModel", "common", "(IIII)I"⟩, 34) := ⟨⟨by decide +kernel, by decide +kernel⟩, List.mem_of_getElem? (i := 865) (by decide +kernel), List.mem_of_getElem? (i := 1072) (by decide +kernel), List.mem_of_getElem? (i := 1073) (by decide +kernel)⟩
theorem lw_p35 : lw_okq (⟨"LoadRoomModel", "come", "(IIIII)V"⟩, 34) := ⟨⟨by decide +kernel, by decide +kernel⟩, List.mem_of_getElem? (i := 865) (by decide +kernel), List.mem_of_getElem? (i := 1076) (by decide +kernel), List.mem_of_getElem? (i := 1077) (by decide +kernel)⟩
theorem lw_p36 : lw_okq (⟨"LoadRoomModel", "compare", "()V"⟩, 34) := ⟨⟨by decide +kernel, by decide +kernel⟩, List.mem_of_getElem? (i := 865) (by decide +kernel), List.mem_of_getElem? (i := 1080) (by decide +kernel), List.mem_of_getElem? (i := 1081) (by decide +kernel)⟩
theorem lw_p37 : lw_okq (⟨"LoadRoomModel", "leave", "()V"⟩, 34) := ⟨⟨by decide +kernel, by decide +kernel⟩, List.mem_of_getElem? (i := 865) (by decide +kernel), List.mem_of_getElem? (i := 1084) (by decide +kernel), List.mem_of_getElem? (i := 1085) (by decide +kernel)⟩
theorem lw_p38 : lw_okq (⟨"LoadRoomModel", "placeOf", "(I)I"⟩, 34) := ⟨⟨by decide +kernel, by decide +kernel⟩, List.mem_of_getElem? (i := 865) (by decide +kernel), List.mem_of_getElem? (i := 1100) (by decide +kernel), List.mem_of_getElem? (i := 1101) (by decide +kernel)⟩
theorem lw_p39 : lw_okq (⟨"LoadRoomModel", "gapOf", "(I)I"⟩, 34) := ⟨⟨by decide +kernel, by decide +kernel⟩, List.mem_of_getElem? (i := 865) (by decide +kernel), List.mem_of_getElem? (i := 1123) (by decide +kernel), List.mem_of_getElem? (i := 1124) (by decide +kernel)⟩
def lw_privs_3 : List (MethodName × Nat) := [(⟨"LoadRoomModel", "mayCome", "(IIII)Z"⟩, 34), (⟨"LoadRoomModel", "rises", "(III)Z"⟩, 34), (⟨"LoadRoomModel", "common", "(IIII)I"⟩, 34), (⟨"LoadRoomModel", "come", "(IIIII)V"⟩, 34), (⟨"LoadRoomModel", "compare", "()V"⟩, 34), (⟨"LoadRoomModel", "leave", "()V"⟩, 34), (⟨"LoadRoomModel", "placeOf", "(I)I"⟩, 34), (⟨"LoadRoomModel", "gapOf", "(I)I"⟩, 34)]
theorem lw_r3 : ∀ q ∈ lw_privs_3, lw_okq q := List.forall_mem_cons.mpr ⟨lw_p32, List.forall_mem_cons.mpr ⟨lw_p33, List.forall_mem_cons.mpr ⟨lw_p34, List.forall_mem_cons.mpr ⟨lw_p35, List.forall_mem_cons.mpr ⟨lw_p36, List.forall_mem_cons.mpr ⟨lw_p37, List.forall_mem_cons.mpr ⟨lw_p38, List.forall_mem_cons.mpr ⟨lw_p39, fun _ h => absurd h List.not_mem_nil⟩⟩⟩⟩⟩⟩⟩⟩
def lw_privs : List (MethodName × Nat) := lw_privs_1 ++ (lw_privs_2 ++ (lw_privs_3))
def lw_tbl : List Cond := k2_sels lw_privs ++ tables_1
theorem lw_privs_ok : ∀ q ∈ lw_privs, lw_okq q := by
  show ∀ q ∈ lw_privs_1 ++ (lw_privs_2 ++ (lw_privs_3)), lw_okq q
  exact List.forall_mem_append.mpr ⟨lw_r1, List.forall_mem_append.mpr ⟨lw_r2, lw_r3⟩⟩
end
section
/-! TABLES of the landed program, by gen.py: class names, fields, methods, instructions, links (with each word's place in lw_tbl) -/
def tb_own : List String := ["LoadRoom$Axles", "LoadRoom$Box", "LoadRoom$Cargo", "LoadRoom$Ends", "LoadRoom$Floor", "LoadRoom$Piece", "LoadRoom$Placed", "LoadRoom$Row", "LoadRoom$Search", "LoadRoom", "LoadRoomModel", "LoadRoomLaw", "java/lang/Math"]
def tb_F0 : List (String × String × String × Bool) := [("LoadRoom$Axles", "places", "[I", true), ("LoadRoom$Axles", "count", "I", false)]
def tb_F1 : List (String × String × String × Bool) := [("LoadRoom$Box", "width", "I", true), ("LoadRoom$Box", "height", "I", true), ("LoadRoom$Box", "depth", "I", true)]
def tb_F2 : List (String × String × String × Bool) := [("LoadRoom$Cargo", "pieces", "[LLoadRoom$Piece;", true), ("LoadRoom$Cargo", "count", "I", false)]
def tb_F3 : List (String × String × String × Bool) := [("LoadRoom$Ends", "sorted", "[[I", true), ("LoadRoom$Ends", "counts", "[I", true)]
def tb_F4 : List (String × String × String × Bool) := [("LoadRoom$Floor", "y", "I", false), ("LoadRoom$Floor", "area", "I", false), ("LoadRoom$Floor", "left", "I", false), ("LoadRoom$Floor", "right", "I", false), ("LoadRoom$Floor", "back", "I", false), ("LoadRoom$Floor", "front", "I", false)]
def tb_F5 : List (String × String × String × Bool) := [("LoadRoom$Piece", "box", "LLoadRoom$Box;", true), ("LoadRoom$Piece", "isGood", "[Z", true), ("LoadRoom$Piece", "goodTurns", "I", false), ("LoadRoom$Piece", "width", "I", false), ("LoadRoom$Piece", "height", "I", false), ("LoadRoom$Piece", "depth", "I", false), ("LoadRoom$Piece", "weight", "I", false), ("LoadRoom$Piece", "marks", "I", false), ("LoadRoom$Piece", "stop", "I", false), ("LoadRoom$Piece", "limit", "I", false)]
def tb_F6 : List (String × String × String × Bool) := [("LoadRoom$Placed", "number", "I", true), ("LoadRoom$Placed", "piece", "I", false), ("LoadRoom$Placed", "turn", "I", false), ("LoadRoom$Placed", "x", "I", false), ("LoadRoom$Placed", "y", "I", false), ("LoadRoom$Placed", "z", "I", false), ("LoadRoom$Placed", "right", "I", false), ("LoadRoom$Placed", "top", "I", false), ("LoadRoom$Placed", "front", "I", false), ("LoadRoom$Placed", "width", "I", false), ("LoadRoom$Placed", "height", "I", false), ("LoadRoom$Placed", "depth", "I", false), ("LoadRoom$Placed", "weight", "I", false), ("LoadRoom$Placed", "stop", "I", false), ("LoadRoom$Placed", "limit", "I", false), ("LoadRoom$Placed", "bears", "I", false)]
def tb_F7 : List (String × String × String × Bool) := [("LoadRoom$Row", "slots", "[LLoadRoom$Placed;", true), ("LoadRoom$Row", "length", "I", false), ("LoadRoom$Row", "volume", "I", false), ("LoadRoom$Row", "moment", "J", false)]
def tb_F8 : List (String × String × String × Bool) := [("LoadRoom$Search", "box", "LLoadRoom$Box;", true), ("LoadRoom$Search", "cargo", "LLoadRoom$Cargo;", true), ("LoadRoom$Search", "row", "LLoadRoom$Row;", true), ("LoadRoom$Search", "best", "LLoadRoom$Row;", true), ("LoadRoom$Search", "rights", "LLoadRoom$Ends;", true), ("LoadRoom$Search", "tops", "LLoadRoom$Ends;", true), ("LoadRoom$Search", "fronts", "LLoadRoom$Ends;", true), ("LoadRoom$Search", "floors", "[LLoadRoom$Floor;", true), ("LoadRoom$Search", "told", "I", false), ("LoadRoom$Search", "made", "I", false), ("LoadRoom$Search", "spent", "Z", false)]
def tb_F9 : List (String × String × String × Bool) := [("LoadRoom", "box", "LLoadRoom$Box;", true), ("LoadRoom", "cargo", "LLoadRoom$Cargo;", true), ("LoadRoom", "search", "LLoadRoom$Search;", true), ("LoadRoom", "axles", "LLoadRoom$Axles;", true)]
def tb_F10 : List (String × String × String × Bool) := [("LoadRoomModel", "thrown", "I", false), ("LoadRoomModel", "box", "[I", true), ("LoadRoomModel", "pieces", "I", false), ("LoadRoomModel", "sizes", "[I", true), ("LoadRoomModel", "weights", "[I", true), ("LoadRoomModel", "marks", "[I", true), ("LoadRoomModel", "stops", "[I", true), ("LoadRoomModel", "limits", "[I", true), ("LoadRoomModel", "many", "I", false), ("LoadRoomModel", "row", "[I", true), ("LoadRoomModel", "turns", "[I", true), ("LoadRoomModel", "spans", "[I", true), ("LoadRoomModel", "places", "[I", true), ("LoadRoomModel", "bears", "[I", true), ("LoadRoomModel", "isIn", "[Z", true), ("LoadRoomModel", "nextPiece", "[I", true), ("LoadRoomModel", "nextTurn", "[I", true), ("LoadRoomModel", "nextCorner", "[I", true), ("LoadRoomModel", "corners", "[I", true), ("LoadRoomModel", "cornerCounts", "[I", true), ("LoadRoomModel", "isPacked", "Z", false), ("LoadRoomModel", "isSpent", "Z", false), ("LoadRoomModel", "steps", "I", false), ("LoadRoomModel", "bestMany", "I", false), ("LoadRoomModel", "bestVolume", "J", false), ("LoadRoomModel", "bestMoment", "J", false), ("LoadRoomModel", "bestRow", "[I", true), ("LoadRoomModel", "bestTurns", "[I", true), ("LoadRoomModel", "bestSpans", "[I", true), ("LoadRoomModel", "bestPlaces", "[I", true), ("LoadRoomModel", "bestBears", "[I", true), ("LoadRoomModel", "axles", "I", false), ("LoadRoomModel", "axlePlaces", "[I", true), ("LoadRoomModel", "turned", "[I", true)]
def tb_F : List (List (String × String × String × Bool)) := [tb_F0, tb_F1, tb_F2, tb_F3, tb_F4, tb_F5, tb_F6, tb_F7, tb_F8, tb_F9, tb_F10]
def tb_u (k : Nat) : u_T := fun j => (tb_F.getD k []).getD j ("", "", "", false)
abbrev tb_cl : List vw_C := [("LoadRoom$Axles", tb_u 0, 2), ("LoadRoom$Box", tb_u 1, 3), ("LoadRoom$Cargo", tb_u 2, 2), ("LoadRoom$Ends", tb_u 3, 2), ("LoadRoom$Floor", tb_u 4, 6), ("LoadRoom$Piece", tb_u 5, 10), ("LoadRoom$Placed", tb_u 6, 16), ("LoadRoom$Row", tb_u 7, 4), ("LoadRoom$Search", tb_u 8, 11), ("LoadRoom", tb_u 9, 4), ("LoadRoomModel", tb_u 10, 34)]
/-- the number of a class's fields; the type of a field: 0 int, 1 long, 2 reference, 3 boolean -/
def tb_ty : List (List Nat) := [[2, 0], [0, 0, 0], [2, 0], [2, 2], [0, 0, 0, 0, 0, 0], [2, 2, 0, 0, 0, 0, 0, 0, 0, 0], [0, 0, 0, 0, 0, 0, 0, 0, 0, 0, 0, 0, 0, 0, 0, 0], [2, 0, 0, 1], [2, 2, 2, 2, 2, 2, 2, 2, 0, 0, 3], [2, 2, 2, 2], [0, 2, 0, 2, 2, 2, 2, 2, 0, 2, 2, 2, 2, 2, 2, 2, 2, 2, 2, 2, 3, 3, 0, 0, 1, 1, 2, 2, 2, 2, 2, 0, 2, 2]]
/-- a method: its class's number, name, descriptor, variables, what it returns (0 nothing, 1 int, 2 long, 3 boolean, 4 reference), arguments (with the receiver), static -/
def tb_met : List (Nat × String × String × Nat × Nat × Nat × Bool) := [(11, "law", "([I)Z", 8, 3, 1, true),
  (9, "<init>", "(III)V", 4, 0, 4, false),
  (9, "nearestLength", "(I)I", 1, 1, 1, true),
  (12, "min", "(II)I", 2, 1, 2, true),
  (12, "max", "(II)I", 2, 1, 2, true),
  (1, "<init>", "(III)V", 4, 0, 4, false),
  (2, "<init>", "(LLoadRoom$Box;)V", 3, 0, 2, false),
  (5, "<init>", "(LLoadRoom$Box;)V", 2, 0, 2, false),
  (8, "<init>", "(LLoadRoom$Box;LLoadRoom$Cargo;)V", 4, 0, 3, false),
  (7, "<init>", "()V", 2, 0, 1, false),
  (6, "<init>", "(I)V", 2, 0, 2, false),
  (3, "<init>", "()V", 1, 0, 1, false),
  (4, "<init>", "()V", 1, 0, 1, false),
  (0, "<init>", "()V", 1, 0, 1, false),
  (9, "exact", "()Z", 1, 3, 1, false),
  (9, "steps", "()I", 1, 1, 1, false),
  (9, "bound", "()I", 1, 1, 1, false),
  (1, "volume", "()I", 1, 1, 1, false),
  (2, "volume", "()I", 3, 1, 1, false),
  (5, "volume", "()I", 1, 1, 1, false),
  (9, "moment", "()J", 1, 2, 1, false),
  (11, "cell", "([II)I", 2, 1, 2, true),
  (11, "piece", "(LLoadRoom;IIII[J)I", 7, 1, 6, true),
  (9, "piece", "(IIII)I", 5, 1, 5, false),
  (9, "isLength", "(I)Z", 1, 3, 1, true),
  (9, "isWithin", "(III)Z", 3, 3, 3, true),
  (2, "isFull", "()Z", 1, 3, 1, false),
  (8, "forget", "()V", 1, 0, 1, false),
  (7, "clear", "()V", 1, 0, 1, false),
  (2, "add", "(IIII)I", 5, 1, 5, false),
  (5, "become", "(IIII)V", 5, 0, 5, false),
  (5, "mark", "(I)V", 3, 0, 2, false),
  (5, "counts", "(I)Z", 3, 3, 2, false),
  (5, "allows", "(I)Z", 2, 3, 2, false),
  (5, "looksAlike", "(II)Z", 3, 3, 3, false),
  (5, "widthIn", "(I)I", 2, 1, 2, false),
  (5, "heightIn", "(I)I", 2, 1, 2, false),
  (5, "depthIn", "(I)I", 2, 1, 2, false),
  (5, "goesIn", "(I)Z", 2, 3, 2, false),
  (11, "turn", "(LLoadRoom;II[J)I", 5, 1, 4, true),
  (9, "turn", "(II)I", 5, 1, 3, false),
  (2, "get", "(I)LLoadRoom$Piece;", 2, 4, 2, false),
  (2, "demand", "(I)V", 2, 0, 2, false),
  (11, "order", "(LLoadRoom;II[J)I", 5, 1, 4, true),
  (9, "order", "(II)I", 5, 1, 3, false),
  (11, "limit", "(LLoadRoom;II[J)I", 5, 1, 4, true),
  (9, "limit", "(II)I", 5, 1, 3, false),
  (11, "fits", "(LLoadRoom;I[J)I", 4, 1, 3, true),
  (9, "fits", "(I)I", 2, 1, 2, false),
  (11, "pack", "(LLoadRoom;I[J)I", 4, 1, 3, true),
  (9, "pack", "(I)I", 2, 1, 2, false),
  (8, "start", "(I)V", 2, 0, 2, false),
  (8, "goBehind", "(I)V", 7, 0, 2, false),
  (8, "layFloors", "(I)V", 3, 0, 2, false),
  (4, "lay", "(LLoadRoom$Box;)V", 2, 0, 2, false),
  (3, "count", "(I)I", 2, 1, 2, false),
  (3, "get", "(II)I", 3, 1, 3, false),
  (4, "lay", "(ILLoadRoom$Row;)V", 4, 0, 3, false),
  (4, "widen", "(LLoadRoom$Placed;)V", 3, 0, 2, false),
  (7, "find", "(I)LLoadRoom$Placed;", 3, 4, 2, false),
  (6, "take", "(ILLoadRoom$Piece;I)V", 4, 0, 4, false),
  (8, "tryFloors", "(LLoadRoom$Placed;)V", 5, 0, 2, false),
  (6, "moveToY", "(I)V", 2, 0, 2, false),
  (7, "leastHeight", "()I", 1, 1, 1, false),
  (8, "tryPlaces", "(LLoadRoom$Placed;LLoadRoom$Floor;)V", 7, 0, 3, false),
  (7, "leastDepth", "(I)I", 2, 1, 2, false),
  (6, "moveToZ", "(I)V", 2, 0, 2, false),
  (6, "moveToX", "(I)V", 2, 0, 2, false),
  (7, "admits", "(LLoadRoom$Placed;)Z", 2, 3, 2, false),
  (7, "isRising", "(LLoadRoom$Placed;)Z", 2, 3, 2, false),
  (6, "isPast", "(LLoadRoom$Placed;)Z", 2, 3, 2, false),
  (7, "letsStand", "(LLoadRoom$Placed;)Z", 4, 3, 2, false),
  (6, "restsOn", "(LLoadRoom$Placed;)I", 4, 1, 2, false),
  (7, "hasRoom", "(LLoadRoom$Placed;)Z", 3, 3, 2, false),
  (6, "sharesRoom", "(LLoadRoom$Placed;)Z", 2, 3, 2, false),
  (7, "carries", "(LLoadRoom$Placed;)Z", 4, 3, 2, false),
  (6, "isOver", "(LLoadRoom$Placed;)Z", 2, 3, 2, false),
  (7, "letsOut", "(LLoadRoom$Placed;)Z", 3, 3, 2, false),
  (6, "shutsIn", "(LLoadRoom$Placed;)Z", 2, 3, 2, false),
  (8, "meet", "(LLoadRoom$Placed;)V", 2, 0, 2, false),
  (7, "lengthen", "()V", 1, 0, 1, false),
  (7, "reckon", "(LLoadRoom$Placed;I)V", 4, 0, 3, false),
  (3, "grow", "(II)V", 9, 0, 3, false),
  (7, "isBetterThan", "(LLoadRoom$Row;)Z", 2, 3, 2, false),
  (7, "copy", "(LLoadRoom$Row;)V", 3, 0, 2, false),
  (6, "copy", "(LLoadRoom$Placed;)V", 2, 0, 2, false),
  (7, "shorten", "()V", 1, 0, 1, false),
  (11, "at", "(LLoadRoom;II[J)I", 5, 1, 4, true),
  (9, "at", "(II)I", 4, 1, 3, false),
  (6, "tell", "(I)I", 2, 1, 2, false),
  (11, "touch", "(LLoadRoom;II[J)I", 5, 1, 4, true),
  (9, "touch", "(II)I", 5, 1, 3, false),
  (11, "axle", "(LLoadRoom;I[J)I", 4, 1, 3, true),
  (9, "axle", "(I)I", 2, 1, 2, false),
  (0, "lastPlace", "()I", 1, 1, 1, false),
  (0, "isFull", "()Z", 1, 3, 1, false),
  (0, "add", "(I)I", 2, 1, 2, false),
  (11, "load", "(LLoadRoom;II[J)I", 5, 1, 4, true),
  (9, "load", "(II)J", 3, 2, 3, false),
  (0, "has", "(I)Z", 2, 3, 2, false),
  (0, "share", "(IILLoadRoom$Row;)J", 10, 2, 4, false),
  (0, "gap", "(I)I", 2, 1, 2, false),
  (0, "sumFromBefore", "(ILLoadRoom$Row;)J", 8, 2, 3, false),
  (0, "firstOfTwo", "(I)I", 4, 1, 2, false),
  (0, "sumFromBehind", "(ILLoadRoom$Row;)J", 8, 2, 3, false),
  (0, "inLowestTerms", "(JJI)J", 9, 2, 3, true),
  (12, "abs", "(J)J", 2, 2, 1, true),
  (0, "commonDivisor", "(JJ)J", 11, 2, 2, true),
  (10, "<init>", "(III)V", 4, 0, 4, false),
  (10, "brought", "(I)I", 1, 1, 1, true),
  (10, "thrown", "()I", 1, 1, 1, false),
  (10, "piece", "(IIII)I", 6, 1, 5, false),
  (10, "within", "(III)Z", 3, 3, 3, true),
  (10, "unpack", "()V", 1, 0, 1, false),
  (10, "turn", "(II)I", 4, 1, 3, false),
  (10, "isPiece", "(I)Z", 2, 3, 2, false),
  (10, "order", "(II)I", 4, 1, 3, false),
  (10, "limit", "(II)I", 4, 1, 3, false),
  (10, "fits", "(I)I", 2, 1, 2, false),
  (10, "fitting", "(I)I", 4, 1, 2, false),
  (10, "turnFits", "(II)Z", 5, 3, 3, false),
  (10, "isAllowed", "(II)Z", 3, 3, 3, false),
  (10, "isLike", "(III)Z", 6, 3, 4, false),
  (10, "axisOf", "(II)I", 2, 1, 2, true),
  (10, "bound", "()I", 3, 1, 1, false),
  (10, "volume", "(I)I", 2, 1, 2, false),
  (10, "pack", "(I)I", 4, 1, 2, false),
  (10, "open", "()V", 8, 0, 1, false),
  (10, "findNext", "()Z", 7, 3, 1, false),
  (10, "cornerX", "(I)I", 2, 1, 2, false),
  (10, "cornerY", "(I)I", 2, 1, 2, false),
  (10, "cornerZ", "(I)I", 2, 1, 2, false),
  (10, "mayCome", "(IIII)Z", 15, 3, 5, false),
  (10, "rises", "(III)Z", 5, 3, 4, false),
  (10, "common", "(IIII)I", 9, 1, 5, false),
  (10, "come", "(IIIII)V", 8, 0, 6, false),
  (10, "compare", "()V", 6, 0, 1, false),
  (10, "leave", "()V", 4, 0, 1, false),
  (10, "exact", "()Z", 1, 3, 1, false),
  (10, "steps", "()I", 1, 1, 1, false),
  (10, "at", "(II)I", 4, 1, 3, false),
  (10, "placeOf", "(I)I", 3, 1, 2, false),
  (10, "moment", "()J", 1, 2, 1, false),
  (10, "touch", "(II)I", 6, 1, 3, false),
  (10, "overlap", "(IIII)I", 6, 1, 4, true),
  (10, "axle", "(I)I", 3, 1, 2, false),
  (10, "load", "(II)J", 17, 2, 3, false),
  (10, "gapOf", "(I)I", 3, 1, 2, false),
  (10, "divisor", "(JJ)J", 10, 2, 2, true)]
def tb_byt : List ByteArray := [code, prog_1_method_1_code, prog_1_method_18_code, prog_18_method_69_code, prog_18_method_65_code, prog_3_method_1_code, prog_4_method_1_code, prog_7_method_1_code, prog_10_method_1_code, prog_9_method_1_code, prog_8_method_1_code, prog_5_method_1_code, prog_6_method_1_code, prog_2_method_1_code, prog_1_method_8_code, prog_1_method_9_code, prog_1_method_10_code, prog_3_method_2_code, prog_4_method_6_code, prog_7_method_4_code, prog_1_method_12_code, method_2_code, method_3_code, prog_1_method_2_code, prog_1_method_17_code, prog_1_method_16_code, prog_4_method_2_code, prog_10_method_2_code, prog_9_method_2_code, prog_4_method_3_code, prog_7_method_2_code, prog_7_method_3_code, prog_7_method_10_code, prog_7_method_8_code, prog_7_method_9_code, prog_7_method_5_code, prog_7_method_6_code, prog_7_method_7_code, prog_7_method_11_code, method_4_code, prog_1_method_3_code, prog_4_method_5_code, prog_4_method_4_code, method_5_code, prog_1_method_4_code, method_6_code, prog_1_method_5_code, method_7_code, prog_1_method_6_code, method_8_code, prog_1_method_7_code, prog_10_method_3_code, prog_10_method_4_code, prog_10_method_5_code, prog_6_method_2_code, prog_5_method_2_code, prog_5_method_3_code, prog_6_method_3_code, prog_6_method_4_code, prog_9_method_4_code, prog_8_method_2_code, prog_10_method_6_code, prog_8_method_5_code, prog_9_method_6_code, prog_10_method_7_code, prog_9_method_7_code, prog_8_method_6_code, prog_8_method_4_code, prog_9_method_8_code, prog_9_method_9_code, prog_8_method_7_code, prog_9_method_11_code, prog_8_method_11_code, prog_9_method_10_code, prog_8_method_8_code, prog_9_method_12_code, prog_8_method_9_code, prog_9_method_13_code, prog_8_method_10_code, prog_10_method_8_code, prog_9_method_14_code, prog_9_method_16_code, prog_5_method_4_code, prog_9_method_5_code, prog_9_method_3_code, prog_8_method_3_code, prog_9_method_15_code, method_9_code, prog_1_method_11_code, prog_8_method_12_code, method_10_code, prog_1_method_13_code, method_11_code, prog_1_method_14_code, prog_2_method_4_code, prog_2_method_2_code, prog_2_method_5_code, method_12_code, prog_1_method_15_code, prog_2_method_3_code, prog_2_method_6_code, prog_2_method_7_code, prog_2_method_9_code, prog_2_method_8_code, prog_2_method_10_code, prog_2_method_11_code, prog_18_method_61_code, prog_2_method_12_code, prog_12_method_1_code, prog_12_method_2_code, prog_12_method_3_code, prog_12_method_7_code, prog_12_method_4_code, prog_12_method_6_code, prog_12_method_8_code, prog_12_method_5_code, prog_12_method_9_code, prog_12_method_10_code, prog_12_method_16_code, prog_12_method_15_code, prog_12_method_14_code, prog_12_method_12_code, prog_12_method_13_code, prog_12_method_11_code, prog_12_method_18_code, prog_12_method_17_code, prog_12_method_30_code, prog_12_method_19_code, prog_12_method_29_code, prog_12_method_26_code, prog_12_method_28_code, prog_12_method_27_code, prog_12_method_22_code, prog_12_method_21_code, prog_12_method_20_code, prog_12_method_23_code, prog_12_method_25_code, prog_12_method_24_code, prog_12_method_31_code, prog_12_method_32_code, prog_12_method_34_code, prog_12_method_33_code, prog_12_method_35_code, prog_12_method_37_code, prog_12_method_36_code, prog_12_method_38_code, prog_12_method_41_code, prog_12_method_39_code, prog_12_method_40_code]
/-- handlers: from, to, target, the kind that is caught, its entry -/
def tb_han : List (List (Nat × Nat × Nat × Nat × Nat)) := [[], [], [], [], [], [], [], [], [], [], [], [], [], [], [], [], [], [], [], [], [], [], [(0, 14, 17, 30, 13), (0, 14, 21, 31, 15)], [], [], [], [], [], [], [], [], [], [], [], [], [], [], [], [], [(0, 10, 13, 32, 21), (0, 10, 17, 30, 13)], [], [], [], [(0, 10, 13, 32, 21), (0, 10, 17, 30, 13)], [], [(0, 10, 13, 32, 21), (0, 10, 17, 30, 13)], [], [(0, 9, 12, 32, 21)], [], [(0, 9, 12, 30, 13)], [], [], [], [], [], [], [], [], [], [], [], [], [], [], [], [], [], [], [], [], [], [], [], [], [], [], [], [], [], [], [], [], [], [], [], [], [], [(0, 10, 13, 32, 21), (0, 10, 17, 30, 13)], [], [], [(0, 10, 13, 32, 21)], [], [(0, 9, 12, 30, 13), (0, 9, 15, 31, 15)], [], [], [], [], [(0, 9, 12, 33, 49), (0, 9, 16, 32, 21), (0, 9, 20, 30, 13)], [], [], [], [], [], [], [], [], [], [], [], [], [], [], [], [], [], [], [], [], [], [], [], [], [], [], [], [], [], [], [], [], [], [], [], [], [], [], [], [], [], [], [], [], [], [], [], [], [], [], []]
/-- the variables that hold longs -/
def tb_lng : List (List Nat) := [[6], [], [], [], [], [], [], [], [], [], [], [], [], [], [], [], [], [], [], [], [], [], [], [], [], [], [], [], [], [], [], [], [], [], [], [], [], [], [], [], [], [], [], [], [], [], [], [], [], [], [], [], [], [], [], [], [], [], [], [], [], [], [], [], [], [], [], [], [], [], [], [], [], [], [], [], [], [], [], [], [], [], [], [], [], [], [], [], [], [], [], [], [], [], [], [], [], [], [], [], [4, 6, 8], [], [3], [], [3], [0, 2, 5, 7], [0], [0, 2, 4, 6, 9], [], [], [], [], [], [], [], [], [], [], [], [], [], [], [], [], [], [], [], [], [], [], [], [], [], [], [], [], [1, 3], [], [], [], [], [], [], [], [], [], [3, 5, 7, 9, 11, 13, 15], [], [0, 2, 4, 6, 8]]
def tb_c0 : List (List (Nat × ClassFile.Instr × Nat)) := [[(0, .new 8, 3), (3, .dup, 1), (4, .aload_n 0, 1), (5, .iconst 0, 1), (6, .invokestatic 51, 3), (9, .aload_n 0, 1), (10, .iconst 1, 1), (11, .invokestatic 51, 3), (14, .aload_n 0, 1), (15, .iconst 2, 1), (16, .invokestatic 51, 3), (19, .invokespecial 57, 3), (22, .astore_n 1, 1), (23, .new 60, 3), (26, .dup, 1), (27, .aload_n 0, 1), (28, .iconst 0, 1), (29, .invokestatic 51, 3), (32, .aload_n 0, 1), (33, .iconst 1, 1), (34, .invokestatic 51, 3), (37, .aload_n 0, 1), (38, .iconst 2, 1), (39, .invokestatic 51, 3), (42, .invokespecial 62, 3), (45, .astore_n 2, 1), (46, .iconst 1, 1), (47, .newarray .long, 2), (49, .astore_n 3, 1), (50, .iconst 3, 1), (51, .istore 4, 2), (53, .iload 4, 2), (55, .aload_n 0, 1), (56, .arraylength, 1), (57, .iconst 5, 1), (58, .isub, 1), (59, .if_icmp .gt 807, 3), (62, .aload_n 0, 1), (63, .iload 4, 2)], [(65, .iaload, 1), (66, .bipush 15, 2), (68, .iand, 1), (69, .tableswitch 791 0 13 #[71, 163, 231, 299, 367, 423, 479, 492, 505, 518, 586, 600, 668, 724], 71)], [(140, .aload_n 1, 1), (141, .aload_n 0, 1), (142, .iload 4, 2), (144, .iconst 1, 1), (145, .iadd, 1), (146, .iaload, 1), (147, .aload_n 0, 1), (148, .iload 4, 2), (150, .iconst 2, 1), (151, .iadd, 1), (152, .iaload, 1), (153, .aload_n 0, 1), (154, .iload 4, 2), (156, .iconst 3, 1), (157, .iadd, 1), (158, .iaload, 1), (159, .aload_n 0, 1), (160, .iload 4, 2), (162, .iconst 4, 1), (163, .iadd, 1), (164, .iaload, 1), (165, .aload_n 3, 1), (166, .invokestatic 63, 3), (169, .istore 5, 2), (171, .aload_n 2, 1), (172, .aload_n 0, 1), (173, .iload 4, 2), (175, .iconst 1, 1), (176, .iadd, 1), (177, .iaload, 1), (178, .aload_n 0, 1), (179, .iload 4, 2), (181, .iconst 2, 1), (182, .iadd, 1), (183, .iaload, 1), (184, .aload_n 0, 1), (185, .iload 4, 2), (187, .iconst 3, 1), (188, .iadd, 1), (189, .iaload, 1), (190, .aload_n 0, 1), (191, .iload 4, 2)], [(193, .iconst 4, 1), (194, .iadd, 1), (195, .iaload, 1), (196, .invokevirtual 66, 3), (199, .istore 6, 2), (201, .aload_n 2, 1), (202, .invokevirtual 67, 3), (205, .iload 5, 2), (207, .if_icmp .eq 5, 3), (210, .iconst 0, 1), (211, .ireturn, 1), (212, .iload 5, 2), (214, .ifCond .ne 15, 3), (217, .aload_n 3, 1), (218, .iconst 0, 1), (219, .laload, 1), (220, .iload 6, 2), (222, .i2l, 1), (223, .lcmp, 1), (224, .ifCond .eq 5, 3), (227, .iconst 0, 1), (228, .ireturn, 1), (229, .goto 631, 3), (232, .aload_n 1, 1), (233, .aload_n 0, 1), (234, .iload 4, 2), (236, .iconst 1, 1), (237, .iadd, 1), (238, .iaload, 1), (239, .aload_n 0, 1), (240, .iload 4, 2), (242, .iconst 2, 1), (243, .iadd, 1), (244, .iaload, 1), (245, .aload_n 3, 1), (246, .invokestatic 71, 3), (249, .istore 5, 2), (251, .aload_n 2, 1), (252, .aload_n 0, 1), (253, .iload 4, 2), (255, .iconst 1, 1)], [(256, .iadd, 1), (257, .iaload, 1), (258, .aload_n 0, 1), (259, .iload 4, 2), (261, .iconst 2, 1), (262, .iadd, 1), (263, .iaload, 1), (264, .invokevirtual 74, 3), (267, .istore 6, 2), (269, .aload_n 2, 1), (270, .invokevirtual 67, 3), (273, .iload 5, 2), (275, .if_icmp .eq 5, 3), (278, .iconst 0, 1), (279, .ireturn, 1), (280, .iload 5, 2), (282, .ifCond .ne 15, 3), (285, .aload_n 3, 1), (286, .iconst 0, 1), (287, .laload, 1), (288, .iload 6, 2), (290, .i2l, 1), (291, .lcmp, 1), (292, .ifCond .eq 5, 3), (295, .iconst 0, 1), (296, .ireturn, 1), (297, .goto 563, 3), (300, .aload_n 1, 1), (301, .aload_n 0, 1), (302, .iload 4, 2), (304, .iconst 1, 1), (305, .iadd, 1), (306, .iaload, 1), (307, .aload_n 0, 1), (308, .iload 4, 2), (310, .iconst 2, 1), (311, .iadd, 1), (312, .iaload, 1), (313, .aload_n 3, 1), (314, .invokestatic 75, 3), (317, .istore 5, 2), (319, .aload_n 2, 1)], [(320, .aload_n 0, 1), (321, .iload 4, 2), (323, .iconst 1, 1), (324, .iadd, 1), (325, .iaload, 1), (326, .aload_n 0, 1), (327, .iload 4, 2), (329, .iconst 2, 1), (330, .iadd, 1), (331, .iaload, 1), (332, .invokevirtual 77, 3), (335, .istore 6, 2), (337, .aload_n 2, 1), (338, .invokevirtual 67, 3), (341, .iload 5, 2), (343, .if_icmp .eq 5, 3), (346, .iconst 0, 1), (347, .ireturn, 1), (348, .iload 5, 2), (350, .ifCond .ne 15, 3), (353, .aload_n 3, 1), (354, .iconst 0, 1), (355, .laload, 1), (356, .iload 6, 2), (358, .i2l, 1), (359, .lcmp, 1), (360, .ifCond .eq 5, 3), (363, .iconst 0, 1), (364, .ireturn, 1), (365, .goto 495, 3), (368, .aload_n 1, 1), (369, .aload_n 0, 1), (370, .iload 4, 2), (372, .iconst 1, 1), (373, .iadd, 1), (374, .iaload, 1), (375, .aload_n 0, 1), (376, .iload 4, 2), (378, .iconst 2, 1), (379, .iadd, 1), (380, .iaload, 1), (381, .aload_n 3, 1), (382, .invokestatic 78, 3)], [(385, .istore 5, 2), (387, .aload_n 2, 1), (388, .aload_n 0, 1), (389, .iload 4, 2), (391, .iconst 1, 1), (392, .iadd, 1), (393, .iaload, 1), (394, .aload_n 0, 1), (395, .iload 4, 2), (397, .iconst 2, 1), (398, .iadd, 1), (399, .iaload, 1), (400, .invokevirtual 80, 3), (403, .istore 6, 2), (405, .aload_n 2, 1), (406, .invokevirtual 67, 3), (409, .iload 5, 2), (411, .if_icmp .eq 5, 3), (414, .iconst 0, 1), (415, .ireturn, 1), (416, .iload 5, 2), (418, .ifCond .ne 15, 3), (421, .aload_n 3, 1), (422, .iconst 0, 1), (423, .laload, 1), (424, .iload 6, 2), (426, .i2l, 1), (427, .lcmp, 1), (428, .ifCond .eq 5, 3), (431, .iconst 0, 1), (432, .ireturn, 1), (433, .goto 427, 3), (436, .aload_n 1, 1), (437, .aload_n 0, 1), (438, .iload 4, 2), (440, .iconst 1, 1), (441, .iadd, 1), (442, .iaload, 1), (443, .aload_n 3, 1), (444, .invokestatic 81, 3), (447, .istore 5, 2)], [(449, .aload_n 2, 1), (450, .aload_n 0, 1), (451, .iload 4, 2), (453, .iconst 1, 1), (454, .iadd, 1), (455, .iaload, 1), (456, .invokevirtual 84, 3), (459, .istore 6, 2), (461, .aload_n 2, 1), (462, .invokevirtual 67, 3), (465, .iload 5, 2), (467, .if_icmp .eq 5, 3), (470, .iconst 0, 1), (471, .ireturn, 1), (472, .iload 5, 2), (474, .ifCond .ne 15, 3), (477, .aload_n 3, 1), (478, .iconst 0, 1), (479, .laload, 1), (480, .iload 6, 2), (482, .i2l, 1), (483, .lcmp, 1), (484, .ifCond .eq 5, 3), (487, .iconst 0, 1), (488, .ireturn, 1), (489, .goto 371, 3), (492, .aload_n 1, 1), (493, .aload_n 0, 1), (494, .iload 4, 2), (496, .iconst 1, 1), (497, .iadd, 1), (498, .iaload, 1), (499, .aload_n 3, 1), (500, .invokestatic 85, 3), (503, .istore 5, 2), (505, .aload_n 2, 1), (506, .aload_n 0, 1), (507, .iload 4, 2), (509, .iconst 1, 1), (510, .iadd, 1), (511, .iaload, 1)], [(512, .invokevirtual 87, 3), (515, .istore 6, 2), (517, .aload_n 2, 1), (518, .invokevirtual 67, 3), (521, .iload 5, 2), (523, .if_icmp .eq 5, 3), (526, .iconst 0, 1), (527, .ireturn, 1), (528, .iload 5, 2), (530, .ifCond .ne 15, 3), (533, .aload_n 3, 1), (534, .iconst 0, 1), (535, .laload, 1), (536, .iload 6, 2), (538, .i2l, 1), (539, .lcmp, 1), (540, .ifCond .eq 5, 3), (543, .iconst 0, 1), (544, .ireturn, 1), (545, .goto 315, 3), (548, .aload_n 1, 1), (549, .invokevirtual 88, 3), (552, .aload_n 2, 1), (553, .invokevirtual 92, 3), (556, .if_icmp .eq 304, 3), (559, .iconst 0, 1), (560, .ireturn, 1), (561, .aload_n 1, 1), (562, .invokevirtual 93, 3), (565, .aload_n 2, 1), (566, .invokevirtual 96, 3), (569, .if_icmp .eq 291, 3), (572, .iconst 0, 1), (573, .ireturn, 1), (574, .aload_n 1, 1), (575, .invokevirtual 97, 3)], [(578, .aload_n 2, 1), (579, .invokevirtual 100, 3), (582, .if_icmp .eq 278, 3), (585, .iconst 0, 1), (586, .ireturn, 1), (587, .aload_n 1, 1), (588, .aload_n 0, 1), (589, .iload 4, 2), (591, .iconst 1, 1), (592, .iadd, 1), (593, .iaload, 1), (594, .aload_n 0, 1), (595, .iload 4, 2), (597, .iconst 2, 1), (598, .iadd, 1), (599, .iaload, 1), (600, .aload_n 3, 1), (601, .invokestatic 101, 3), (604, .istore 5, 2), (606, .aload_n 2, 1), (607, .aload_n 0, 1), (608, .iload 4, 2), (610, .iconst 1, 1), (611, .iadd, 1), (612, .iaload, 1), (613, .aload_n 0, 1), (614, .iload 4, 2), (616, .iconst 2, 1), (617, .iadd, 1), (618, .iaload, 1), (619, .invokevirtual 103, 3), (622, .istore 6, 2), (624, .aload_n 2, 1), (625, .invokevirtual 67, 3), (628, .iload 5, 2), (630, .if_icmp .eq 5, 3), (633, .iconst 0, 1), (634, .ireturn, 1), (635, .iload 5, 2), (637, .ifCond .ne 15, 3)], [(640, .aload_n 3, 1), (641, .iconst 0, 1), (642, .laload, 1), (643, .iload 6, 2), (645, .i2l, 1), (646, .lcmp, 1), (647, .ifCond .eq 5, 3), (650, .iconst 0, 1), (651, .ireturn, 1), (652, .goto 208, 3), (655, .aload_n 1, 1), (656, .invokevirtual 104, 3), (659, .aload_n 2, 1), (660, .invokevirtual 108, 3), (663, .lcmp, 1), (664, .ifCond .eq 196, 3), (667, .iconst 0, 1), (668, .ireturn, 1), (669, .aload_n 1, 1), (670, .aload_n 0, 1), (671, .iload 4, 2), (673, .iconst 1, 1), (674, .iadd, 1), (675, .iaload, 1), (676, .aload_n 0, 1), (677, .iload 4, 2), (679, .iconst 2, 1), (680, .iadd, 1), (681, .iaload, 1), (682, .aload_n 3, 1), (683, .invokestatic 109, 3), (686, .istore 5, 2), (688, .aload_n 2, 1), (689, .aload_n 0, 1), (690, .iload 4, 2), (692, .iconst 1, 1), (693, .iadd, 1), (694, .iaload, 1), (695, .aload_n 0, 1), (696, .iload 4, 2), (698, .iconst 2, 1), (699, .iadd, 1), (700, .iaload, 1), (701, .invokevirtual 111, 3)], [(704, .istore 6, 2), (706, .aload_n 2, 1), (707, .invokevirtual 67, 3), (710, .iload 5, 2), (712, .if_icmp .eq 5, 3), (715, .iconst 0, 1), (716, .ireturn, 1), (717, .iload 5, 2), (719, .ifCond .ne 15, 3), (722, .aload_n 3, 1), (723, .iconst 0, 1), (724, .laload, 1), (725, .iload 6, 2), (727, .i2l, 1), (728, .lcmp, 1), (729, .ifCond .eq 5, 3), (732, .iconst 0, 1), (733, .ireturn, 1), (734, .goto 126, 3), (737, .aload_n 1, 1), (738, .aload_n 0, 1), (739, .iload 4, 2), (741, .iconst 1, 1), (742, .iadd, 1), (743, .iaload, 1), (744, .aload_n 3, 1), (745, .invokestatic 112, 3), (748, .istore 5, 2), (750, .aload_n 2, 1), (751, .aload_n 0, 1), (752, .iload 4, 2), (754, .iconst 1, 1), (755, .iadd, 1), (756, .iaload, 1), (757, .invokevirtual 114, 3), (760, .istore 6, 2), (762, .aload_n 2, 1), (763, .invokevirtual 67, 3), (766, .iload 5, 2)], [(768, .if_icmp .eq 5, 3), (771, .iconst 0, 1), (772, .ireturn, 1), (773, .iload 5, 2), (775, .ifCond .ne 15, 3), (778, .aload_n 3, 1), (779, .iconst 0, 1), (780, .laload, 1), (781, .iload 6, 2), (783, .i2l, 1), (784, .lcmp, 1), (785, .ifCond .eq 5, 3), (788, .iconst 0, 1), (789, .ireturn, 1), (790, .goto 70, 3), (793, .aload_n 1, 1), (794, .aload_n 0, 1), (795, .iload 4, 2), (797, .iconst 1, 1), (798, .iadd, 1), (799, .iaload, 1), (800, .aload_n 0, 1), (801, .iload 4, 2), (803, .iconst 2, 1), (804, .iadd, 1), (805, .iaload, 1), (806, .aload_n 3, 1), (807, .invokestatic 115, 3), (810, .istore 5, 2), (812, .aload_n 2, 1), (813, .aload_n 0, 1), (814, .iload 4, 2), (816, .iconst 1, 1), (817, .iadd, 1), (818, .iaload, 1), (819, .aload_n 0, 1), (820, .iload 4, 2), (822, .iconst 2, 1), (823, .iadd, 1), (824, .iaload, 1), (825, .invokevirtual 117, 3), (828, .lstore 6, 2), (830, .aload_n 2, 1), (831, .invokevirtual 67, 3)], [(834, .iload 5, 2), (836, .if_icmp .eq 5, 3), (839, .iconst 0, 1), (840, .ireturn, 1), (841, .iload 5, 2), (843, .ifCond .ne 14, 3), (846, .aload_n 3, 1), (847, .iconst 0, 1), (848, .laload, 1), (849, .lload 6, 2), (851, .lcmp, 1), (852, .ifCond .eq 5, 3), (855, .iconst 0, 1), (856, .ireturn, 1), (857, .goto 3, 3), (860, .iinc 4 5, 3), (863, .goto (-810), 3), (866, .iconst 1, 1), (867, .ireturn, 1)]]
def tb_c1 : List (List (Nat × ClassFile.Instr × Nat)) := [[(0, .aload_n 0, 1), (1, .invokespecial 1, 3), (4, .aload_n 0, 1), (5, .new 7, 3), (8, .dup, 1), (9, .iload_n 1, 1), (10, .invokestatic 9, 3), (13, .iload_n 2, 1), (14, .invokestatic 9, 3), (17, .iload_n 3, 1), (18, .invokestatic 9, 3), (21, .invokespecial 15, 3), (24, .putfield 18, 3), (27, .aload_n 0, 1), (28, .new 22, 3), (31, .dup, 1), (32, .aload_n 0, 1), (33, .getfield 18, 3), (36, .invokespecial 24, 3), (39, .putfield 27, 3), (42, .aload_n 0, 1), (43, .new 31, 3), (46, .dup, 1), (47, .aload_n 0, 1), (48, .getfield 18, 3), (51, .aload_n 0, 1), (52, .getfield 27, 3), (55, .invokespecial 33, 3), (58, .putfield 36, 3), (61, .aload_n 0, 1), (62, .new 40, 3)], [(65, .dup, 1), (66, .invokespecial 42, 3), (69, .putfield 43, 3), (72, .return_, 1)]]
def tb_c2 : List (List (Nat × ClassFile.Instr × Nat)) := [[(0, .iconst 1, 1), (1, .sipush 200, 3), (4, .iload_n 0, 1), (5, .invokestatic 138, 3), (8, .invokestatic 200, 3), (11, .ireturn, 1)]]
def tb_c3 : List (List (Nat × ClassFile.Instr × Nat)) := [[(0, .iload_n 0, 1), (1, .iload_n 1, 1), (2, .if_icmp .gt 7, 3), (5, .iload_n 0, 1), (6, .goto 4, 3), (9, .iload_n 1, 1), (10, .ireturn, 1)]]
def tb_c4 : List (List (Nat × ClassFile.Instr × Nat)) := [[(0, .iload_n 0, 1), (1, .iload_n 1, 1), (2, .if_icmp .lt 7, 3), (5, .iload_n 0, 1), (6, .goto 4, 3), (9, .iload_n 1, 1), (10, .ireturn, 1)]]
def tb_c5 : List (List (Nat × ClassFile.Instr × Nat)) := [[(0, .aload_n 0, 1), (1, .invokespecial 1, 3), (4, .aload_n 0, 1), (5, .iload_n 1, 1), (6, .putfield 7, 3), (9, .aload_n 0, 1), (10, .iload_n 2, 1), (11, .putfield 13, 3), (14, .aload_n 0, 1), (15, .iload_n 3, 1), (16, .putfield 16, 3), (19, .return_, 1)]]
def tb_c6 : List (List (Nat × ClassFile.Instr × Nat)) := [[(0, .aload_n 0, 1), (1, .invokespecial 3, 3), (4, .aload_n 0, 1), (5, .bipush 8, 2), (7, .anewarray 9, 3), (10, .putfield 11, 3), (13, .iconst 0, 1), (14, .istore_n 2, 1), (15, .iload_n 2, 1), (16, .bipush 8, 2), (18, .if_icmp .ge 23, 3), (21, .aload_n 0, 1), (22, .getfield 11, 3), (25, .iload_n 2, 1), (26, .new 9, 3), (29, .dup, 1), (30, .aload_n 1, 1), (31, .invokespecial 17, 3), (34, .aastore, 1), (35, .iinc 2 1, 3), (38, .goto (-23), 3), (41, .return_, 1)]]
def tb_c7 : List (List (Nat × ClassFile.Instr × Nat)) := [[(0, .aload_n 0, 1), (1, .invokespecial 3, 3), (4, .aload_n 0, 1), (5, .bipush 6, 2), (7, .newarray .boolean, 2), (9, .putfield 9, 3), (12, .aload_n 0, 1), (13, .aload_n 1, 1), (14, .putfield 15, 3), (17, .return_, 1)]]
def tb_c8 : List (List (Nat × ClassFile.Instr × Nat)) := [[(0, .aload_n 0, 1), (1, .invokespecial 3, 3), (4, .aload_n 0, 1), (5, .new 9, 3), (8, .dup, 1), (9, .invokespecial 11, 3), (12, .putfield 12, 3), (15, .aload_n 0, 1), (16, .new 9, 3), (19, .dup, 1), (20, .invokespecial 11, 3), (23, .putfield 18, 3), (26, .aload_n 0, 1), (27, .new 21, 3), (30, .dup, 1), (31, .invokespecial 23, 3), (34, .putfield 24, 3), (37, .aload_n 0, 1), (38, .new 21, 3), (41, .dup, 1), (42, .invokespecial 23, 3), (45, .putfield 28, 3), (48, .aload_n 0, 1), (49, .new 21, 3), (52, .dup, 1), (53, .invokespecial 23, 3), (56, .putfield 31, 3), (59, .aload_n 0, 1), (60, .bipush 64, 2), (62, .anewarray 34, 3)], [(65, .putfield 36, 3), (68, .aload_n 0, 1), (69, .iconst (-1), 1), (70, .putfield 40, 3), (73, .aload_n 0, 1), (74, .aload_n 1, 1), (75, .putfield 44, 3), (78, .aload_n 0, 1), (79, .aload_n 2, 1), (80, .putfield 48, 3), (83, .iconst 0, 1), (84, .istore_n 3, 1), (85, .iload_n 3, 1), (86, .bipush 64, 2), (88, .if_icmp .ge 22, 3), (91, .aload_n 0, 1), (92, .getfield 36, 3), (95, .iload_n 3, 1), (96, .new 34, 3), (99, .dup, 1), (100, .invokespecial 52, 3), (103, .aastore, 1), (104, .iinc 3 1, 3), (107, .goto (-22), 3), (110, .return_, 1)]]
def tb_c9 : List (List (Nat × ClassFile.Instr × Nat)) := [[(0, .aload_n 0, 1), (1, .invokespecial 3, 3), (4, .aload_n 0, 1), (5, .bipush 8, 2), (7, .anewarray 9, 3), (10, .putfield 11, 3), (13, .iconst 0, 1), (14, .istore_n 1, 1), (15, .iload_n 1, 1), (16, .bipush 8, 2), (18, .if_icmp .ge 23, 3), (21, .aload_n 0, 1), (22, .getfield 11, 3), (25, .iload_n 1, 1), (26, .new 9, 3), (29, .dup, 1), (30, .iload_n 1, 1), (31, .invokespecial 17, 3), (34, .aastore, 1), (35, .iinc 1 1, 3), (38, .goto (-23), 3), (41, .return_, 1)]]
def tb_c10 : List (List (Nat × ClassFile.Instr × Nat)) := [[(0, .aload_n 0, 1), (1, .invokespecial 1, 3), (4, .aload_n 0, 1), (5, .iload_n 1, 1), (6, .putfield 7, 3), (9, .return_, 1)]]
def tb_c11 : List (List (Nat × ClassFile.Instr × Nat)) := [[(0, .aload_n 0, 1), (1, .invokespecial 3, 3), (4, .aload_n 0, 1), (5, .bipush 8, 2), (7, .bipush 8, 2), (9, .multianewarray 9 2, 4), (13, .putfield 11, 3), (16, .aload_n 0, 1), (17, .bipush 8, 2), (19, .newarray .int, 2), (21, .putfield 16, 3), (24, .aload_n 0, 1), (25, .getfield 16, 3), (28, .iconst 0, 1), (29, .iconst 1, 1), (30, .iastore, 1), (31, .return_, 1)]]
def tb_c12 : List (List (Nat × ClassFile.Instr × Nat)) := [[(0, .aload_n 0, 1), (1, .invokespecial 1, 3), (4, .return_, 1)]]
def tb_c13 : List (List (Nat × ClassFile.Instr × Nat)) := [[(0, .aload_n 0, 1), (1, .invokespecial 3, 3), (4, .aload_n 0, 1), (5, .bipush 6, 2), (7, .newarray .int, 2), (9, .putfield 9, 3), (12, .return_, 1)]]
def tb_c14 : List (List (Nat × ClassFile.Instr × Nat)) := [[(0, .aload_n 0, 1), (1, .getfield 36, 3), (4, .getfield 127, 3), (7, .iconst (-1), 1), (8, .if_icmp .eq 17, 3), (11, .aload_n 0, 1), (12, .getfield 36, 3), (15, .getfield 130, 3), (18, .ifCond .ne 7, 3), (21, .iconst 1, 1), (22, .goto 4, 3), (25, .iconst 0, 1), (26, .ireturn, 1)]]
def tb_c15 : List (List (Nat × ClassFile.Instr × Nat)) := [[(0, .aload_n 0, 1), (1, .getfield 36, 3), (4, .getfield 127, 3), (7, .ireturn, 1)]]
def tb_c16 : List (List (Nat × ClassFile.Instr × Nat)) := [[(0, .aload_n 0, 1), (1, .getfield 18, 3), (4, .invokevirtual 134, 3), (7, .aload_n 0, 1), (8, .getfield 27, 3), (11, .invokevirtual 137, 3), (14, .invokestatic 138, 3), (17, .ireturn, 1)]]
def tb_c17 : List (List (Nat × ClassFile.Instr × Nat)) := [[(0, .aload_n 0, 1), (1, .getfield 7, 3), (4, .aload_n 0, 1), (5, .getfield 13, 3), (8, .imul, 1), (9, .aload_n 0, 1), (10, .getfield 16, 3), (13, .imul, 1), (14, .ireturn, 1)]]
def tb_c18 : List (List (Nat × ClassFile.Instr × Nat)) := [[(0, .iconst 0, 1), (1, .istore_n 1, 1), (2, .iconst 0, 1), (3, .istore_n 2, 1), (4, .iload_n 2, 1), (5, .aload_n 0, 1), (6, .getfield 20, 3), (9, .if_icmp .ge 33, 3), (12, .aload_n 0, 1), (13, .getfield 11, 3), (16, .iload_n 2, 1), (17, .aaload, 1), (18, .getfield 43, 3), (21, .ifCond .le 15, 3), (24, .iload_n 1, 1), (25, .aload_n 0, 1), (26, .getfield 11, 3), (29, .iload_n 2, 1), (30, .aaload, 1), (31, .invokevirtual 46, 3), (34, .iadd, 1), (35, .istore_n 1, 1), (36, .iinc 2 1, 3), (39, .goto (-35), 3), (42, .iload_n 1, 1), (43, .ireturn, 1)]]
def tb_c19 : List (List (Nat × ClassFile.Instr × Nat)) := [[(0, .aload_n 0, 1), (1, .getfield 19, 3), (4, .aload_n 0, 1), (5, .getfield 23, 3), (8, .imul, 1), (9, .aload_n 0, 1), (10, .getfield 26, 3), (13, .imul, 1), (14, .ireturn, 1)]]
def tb_c20 : List (List (Nat × ClassFile.Instr × Nat)) := [[(0, .aload_n 0, 1), (1, .getfield 36, 3), (4, .getfield 118, 3), (7, .getfield 158, 3), (10, .lreturn, 1)]]
def tb_c21 : List (List (Nat × ClassFile.Instr × Nat)) := [[(0, .iload_n 1, 1), (1, .aload_n 0, 1), (2, .arraylength, 1), (3, .if_icmp .ge 9, 3), (6, .aload_n 0, 1), (7, .iload_n 1, 1), (8, .iaload, 1), (9, .goto 4, 3), (12, .iconst 0, 1), (13, .ireturn, 1)]]
def tb_c22 : List (List (Nat × ClassFile.Instr × Nat)) := [[(0, .aload 5, 2), (2, .iconst 0, 1), (3, .aload_n 0, 1), (4, .iload_n 1, 1), (5, .iload_n 2, 1), (6, .iload_n 3, 1), (7, .iload 4, 2), (9, .invokevirtual 7, 3), (12, .i2l, 1), (13, .lastore, 1), (14, .goto 11, 3), (17, .astore 6, 2), (19, .iconst 1, 1), (20, .ireturn, 1), (21, .astore 6, 2), (23, .iconst 2, 1), (24, .ireturn, 1), (25, .iconst 0, 1), (26, .ireturn, 1)]]
def tb_c23 : List (List (Nat × ClassFile.Instr × Nat)) := [[(0, .iload_n 1, 1), (1, .invokestatic 47, 3), (4, .ifCond .eq 17, 3), (7, .iload_n 2, 1), (8, .invokestatic 47, 3), (11, .ifCond .eq 10, 3), (14, .iload_n 3, 1), (15, .invokestatic 47, 3), (18, .ifCond .ne 13, 3), (21, .new 51, 3), (24, .dup, 1), (25, .ldc 53, 2), (27, .invokespecial 55, 3), (30, .athrow, 1), (31, .iload 4, 2), (33, .iconst 1, 1), (34, .sipush 10000, 3), (37, .invokestatic 58, 3), (40, .ifCond .ne 13, 3), (43, .new 51, 3), (46, .dup, 1), (47, .ldc 62, 2), (49, .invokespecial 55, 3), (52, .athrow, 1), (53, .aload_n 0, 1), (54, .getfield 27, 3), (57, .invokevirtual 64, 3), (60, .ifCond .eq 13, 3), (63, .new 68, 3)], [(66, .dup, 1), (67, .ldc 70, 2), (69, .invokespecial 72, 3), (72, .athrow, 1), (73, .aload_n 0, 1), (74, .getfield 36, 3), (77, .invokevirtual 73, 3), (80, .aload_n 0, 1), (81, .getfield 27, 3), (84, .iload_n 1, 1), (85, .iload_n 2, 1), (86, .iload_n 3, 1), (87, .iload 4, 2), (89, .invokevirtual 76, 3), (92, .ireturn, 1)]]
def tb_c24 : List (List (Nat × ClassFile.Instr × Nat)) := [[(0, .iload_n 0, 1), (1, .iconst 1, 1), (2, .sipush 200, 3), (5, .invokestatic 58, 3), (8, .ireturn, 1)]]
def tb_c25 : List (List (Nat × ClassFile.Instr × Nat)) := [[(0, .iload_n 0, 1), (1, .iload_n 1, 1), (2, .if_icmp .lt 12, 3), (5, .iload_n 0, 1), (6, .iload_n 2, 1), (7, .if_icmp .gt 7, 3), (10, .iconst 1, 1), (11, .goto 4, 3), (14, .iconst 0, 1), (15, .ireturn, 1)]]
def tb_c26 : List (List (Nat × ClassFile.Instr × Nat)) := [[(0, .aload_n 0, 1), (1, .getfield 20, 3), (4, .bipush 8, 2), (6, .if_icmp .lt 7, 3), (9, .iconst 1, 1), (10, .goto 4, 3), (13, .iconst 0, 1), (14, .ireturn, 1)]]
def tb_c27 : List (List (Nat × ClassFile.Instr × Nat)) := [[(0, .aload_n 0, 1), (1, .iconst (-1), 1), (2, .putfield 40, 3), (5, .aload_n 0, 1), (6, .getfield 18, 3), (9, .invokevirtual 53, 3), (12, .return_, 1)]]
def tb_c28 : List (List (Nat × ClassFile.Instr × Nat)) := [[(0, .aload_n 0, 1), (1, .iconst 0, 1), (2, .putfield 20, 3), (5, .aload_n 0, 1), (6, .iconst 0, 1), (7, .putfield 24, 3), (10, .aload_n 0, 1), (11, .lconst 0, 1), (12, .putfield 27, 3), (15, .return_, 1)]]
def tb_c29 : List (List (Nat × ClassFile.Instr × Nat)) := [[(0, .aload_n 0, 1), (1, .invokevirtual 24, 3), (4, .ifCond .eq 5, 3), (7, .iconst (-1), 1), (8, .ireturn, 1), (9, .aload_n 0, 1), (10, .getfield 11, 3), (13, .aload_n 0, 1), (14, .getfield 20, 3), (17, .aaload, 1), (18, .iload_n 1, 1), (19, .iload_n 2, 1), (20, .iload_n 3, 1), (21, .iload 4, 2), (23, .invokevirtual 28, 3), (26, .aload_n 0, 1), (27, .dup, 1), (28, .getfield 20, 3), (31, .iconst 1, 1), (32, .iadd, 1), (33, .putfield 20, 3), (36, .aload_n 0, 1), (37, .getfield 20, 3), (40, .iconst 1, 1), (41, .isub, 1), (42, .ireturn, 1)]]
def tb_c30 : List (List (Nat × ClassFile.Instr × Nat)) := [[(0, .aload_n 0, 1), (1, .iload_n 1, 1), (2, .putfield 19, 3), (5, .aload_n 0, 1), (6, .iload_n 2, 1), (7, .putfield 23, 3), (10, .aload_n 0, 1), (11, .iload_n 3, 1), (12, .putfield 26, 3), (15, .aload_n 0, 1), (16, .iload 4, 2), (18, .putfield 29, 3), (21, .aload_n 0, 1), (22, .iconst 0, 1), (23, .putfield 32, 3), (26, .aload_n 0, 1), (27, .ldc 35, 2), (29, .putfield 36, 3), (32, .aload_n 0, 1), (33, .iconst 0, 1), (34, .invokevirtual 39, 3), (37, .return_, 1)]]
def tb_c31 : List (List (Nat × ClassFile.Instr × Nat)) := [[(0, .aload_n 0, 1), (1, .iload_n 1, 1), (2, .putfield 43, 3), (5, .aload_n 0, 1), (6, .iconst 0, 1), (7, .putfield 46, 3), (10, .iconst 0, 1), (11, .istore_n 2, 1), (12, .iload_n 2, 1), (13, .bipush 6, 2), (15, .if_icmp .ge 59, 3), (18, .aload_n 0, 1), (19, .getfield 9, 3), (22, .iload_n 2, 1), (23, .aload_n 0, 1), (24, .iload_n 2, 1), (25, .invokevirtual 49, 3), (28, .ifCond .eq 15, 3), (31, .aload_n 0, 1), (32, .iload_n 2, 1), (33, .invokevirtual 53, 3), (36, .ifCond .eq 7, 3), (39, .iconst 1, 1), (40, .goto 4, 3), (43, .iconst 0, 1), (44, .bastore, 1), (45, .aload_n 0, 1), (46, .dup, 1), (47, .getfield 46, 3), (50, .aload_n 0, 1), (51, .getfield 9, 3), (54, .iload_n 2, 1), (55, .baload, 1), (56, .ifCond .eq 7, 3), (59, .iconst 1, 1), (60, .goto 4, 3), (63, .iconst 0, 1)], [(64, .iadd, 1), (65, .putfield 46, 3), (68, .iinc 2 1, 3), (71, .goto (-59), 3), (74, .return_, 1)]]
def tb_c32 : List (List (Nat × ClassFile.Instr × Nat)) := [[(0, .aload_n 0, 1), (1, .iload_n 1, 1), (2, .invokevirtual 66, 3), (5, .ifCond .ne 5, 3), (8, .iconst 0, 1), (9, .ireturn, 1), (10, .iconst 0, 1), (11, .istore_n 2, 1), (12, .iload_n 2, 1), (13, .iload_n 1, 1), (14, .if_icmp .ge 28, 3), (17, .aload_n 0, 1), (18, .iload_n 2, 1), (19, .invokevirtual 66, 3), (22, .ifCond .eq 14, 3), (25, .aload_n 0, 1), (26, .iload_n 2, 1), (27, .iload_n 1, 1), (28, .invokevirtual 69, 3), (31, .ifCond .eq 5, 3), (34, .iconst 0, 1), (35, .ireturn, 1), (36, .iinc 2 1, 3), (39, .goto (-27), 3), (42, .iconst 1, 1), (43, .ireturn, 1)]]
def tb_c33 : List (List (Nat × ClassFile.Instr × Nat)) := [[(0, .iload_n 1, 1), (1, .ifCond .ne 5, 3), (4, .iconst 1, 1), (5, .ireturn, 1), (6, .iload_n 1, 1), (7, .iconst 1, 1), (8, .if_icmp .ne 21, 3), (11, .aload_n 0, 1), (12, .getfield 43, 3), (15, .iconst 1, 1), (16, .iand, 1), (17, .iconst 1, 1), (18, .if_icmp .ne 7, 3), (21, .iconst 1, 1), (22, .goto 20, 3), (25, .iconst 0, 1), (26, .goto 16, 3), (29, .aload_n 0, 1), (30, .getfield 43, 3), (33, .iconst 2, 1), (34, .if_icmp .lt 7, 3), (37, .iconst 1, 1), (38, .goto 4, 3), (41, .iconst 0, 1), (42, .ireturn, 1)]]
def tb_c34 : List (List (Nat × ClassFile.Instr × Nat)) := [[(0, .aload_n 0, 1), (1, .iload_n 1, 1), (2, .invokevirtual 56, 3), (5, .aload_n 0, 1), (6, .iload_n 2, 1), (7, .invokevirtual 56, 3), (10, .if_icmp .ne 33, 3), (13, .aload_n 0, 1), (14, .iload_n 1, 1), (15, .invokevirtual 60, 3), (18, .aload_n 0, 1), (19, .iload_n 2, 1), (20, .invokevirtual 60, 3), (23, .if_icmp .ne 20, 3), (26, .aload_n 0, 1), (27, .iload_n 1, 1), (28, .invokevirtual 63, 3), (31, .aload_n 0, 1), (32, .iload_n 2, 1), (33, .invokevirtual 63, 3), (36, .if_icmp .ne 7, 3), (39, .iconst 1, 1), (40, .goto 4, 3), (43, .iconst 0, 1), (44, .ireturn, 1)]]
def tb_c35 : List (List (Nat × ClassFile.Instr × Nat)) := [[(0, .iload_n 1, 1), (1, .tableswitch 45 1 5 #[35, 40, 35, 45, 40], 35), (36, .aload_n 0, 1), (37, .getfield 26, 3), (40, .ireturn, 1), (41, .aload_n 0, 1), (42, .getfield 23, 3), (45, .ireturn, 1), (46, .aload_n 0, 1), (47, .getfield 19, 3), (50, .ireturn, 1)]]
def tb_c36 : List (List (Nat × ClassFile.Instr × Nat)) := [[(0, .iload_n 1, 1), (1, .tableswitch 41 2 5 #[31, 31, 36, 36], 31), (32, .aload_n 0, 1), (33, .getfield 19, 3), (36, .ireturn, 1), (37, .aload_n 0, 1), (38, .getfield 26, 3), (41, .ireturn, 1), (42, .aload_n 0, 1), (43, .getfield 23, 3), (46, .ireturn, 1)]]
def tb_c37 : List (List (Nat × ClassFile.Instr × Nat)) := [[(0, .iload_n 1, 1), (1, .tableswitch 45 1 5 #[35, 45, 40, 40, 35], 35), (36, .aload_n 0, 1), (37, .getfield 19, 3), (40, .ireturn, 1), (41, .aload_n 0, 1), (42, .getfield 23, 3), (45, .ireturn, 1), (46, .aload_n 0, 1), (47, .getfield 26, 3), (50, .ireturn, 1)]]
def tb_c38 : List (List (Nat × ClassFile.Instr × Nat)) := [[(0, .aload_n 0, 1), (1, .iload_n 1, 1), (2, .invokevirtual 56, 3), (5, .aload_n 0, 1), (6, .getfield 15, 3), (9, .getfield 73, 3), (12, .if_icmp .gt 37, 3), (15, .aload_n 0, 1), (16, .iload_n 1, 1), (17, .invokevirtual 60, 3), (20, .aload_n 0, 1), (21, .getfield 15, 3), (24, .getfield 76, 3), (27, .if_icmp .gt 22, 3), (30, .aload_n 0, 1), (31, .iload_n 1, 1), (32, .invokevirtual 63, 3), (35, .aload_n 0, 1), (36, .getfield 15, 3), (39, .getfield 77, 3), (42, .if_icmp .gt 7, 3), (45, .iconst 1, 1), (46, .goto 4, 3), (49, .iconst 0, 1), (50, .ireturn, 1)]]
def tb_c39 : List (List (Nat × ClassFile.Instr × Nat)) := [[(0, .aload_n 3, 1), (1, .iconst 0, 1), (2, .aload_n 0, 1), (3, .iload_n 1, 1), (4, .iload_n 2, 1), (5, .invokevirtual 17, 3), (8, .i2l, 1), (9, .lastore, 1), (10, .goto 11, 3), (13, .astore 4, 2), (15, .iconst 1, 1), (16, .ireturn, 1), (17, .astore 4, 2), (19, .iconst 2, 1), (20, .ireturn, 1), (21, .iconst 0, 1), (22, .ireturn, 1)]]
def tb_c40 : List (List (Nat × ClassFile.Instr × Nat)) := [[(0, .aload_n 0, 1), (1, .getfield 27, 3), (4, .iload_n 1, 1), (5, .invokevirtual 80, 3), (8, .astore_n 3, 1), (9, .iload_n 2, 1), (10, .iconst 0, 1), (11, .iconst 3, 1), (12, .invokestatic 58, 3), (15, .ifCond .ne 13, 3), (18, .new 51, 3), (21, .dup, 1), (22, .ldc 84, 2), (24, .invokespecial 55, 3), (27, .athrow, 1), (28, .aload_n 3, 1), (29, .getfield 86, 3), (32, .istore 4, 2), (34, .aload_n 3, 1), (35, .iload_n 2, 1), (36, .invokevirtual 92, 3), (39, .aload_n 0, 1), (40, .getfield 36, 3), (43, .invokevirtual 73, 3), (46, .iload 4, 2), (48, .ireturn, 1)]]
def tb_c41 : List (List (Nat × ClassFile.Instr × Nat)) := [[(0, .aload_n 0, 1), (1, .iload_n 1, 1), (2, .invokevirtual 39, 3), (5, .aload_n 0, 1), (6, .getfield 11, 3), (9, .iload_n 1, 1), (10, .aaload, 1), (11, .areturn, 1)]]
def tb_c42 : List (List (Nat × ClassFile.Instr × Nat)) := [[(0, .iload_n 1, 1), (1, .ifCond .lt 11, 3), (4, .iload_n 1, 1), (5, .aload_n 0, 1), (6, .getfield 20, 3), (9, .if_icmp .lt 13, 3), (12, .new 32, 3), (15, .dup, 1), (16, .ldc 34, 2), (18, .invokespecial 36, 3), (21, .athrow, 1), (22, .return_, 1)]]
def tb_c43 : List (List (Nat × ClassFile.Instr × Nat)) := [[(0, .aload_n 3, 1), (1, .iconst 0, 1), (2, .aload_n 0, 1), (3, .iload_n 1, 1), (4, .iload_n 2, 1), (5, .invokevirtual 23, 3), (8, .i2l, 1), (9, .lastore, 1), (10, .goto 11, 3), (13, .astore 4, 2), (15, .iconst 1, 1), (16, .ireturn, 1), (17, .astore 4, 2), (19, .iconst 2, 1), (20, .ireturn, 1), (21, .iconst 0, 1), (22, .ireturn, 1)]]
def tb_c44 : List (List (Nat × ClassFile.Instr × Nat)) := [[(0, .aload_n 0, 1), (1, .getfield 27, 3), (4, .iload_n 1, 1), (5, .invokevirtual 80, 3), (8, .astore_n 3, 1), (9, .iload_n 2, 1), (10, .iconst 0, 1), (11, .bipush 9, 2), (13, .invokestatic 58, 3), (16, .ifCond .ne 13, 3), (19, .new 51, 3), (22, .dup, 1), (23, .ldc 96, 2), (25, .invokespecial 55, 3), (28, .athrow, 1), (29, .aload_n 3, 1), (30, .getfield 98, 3), (33, .istore 4, 2), (35, .aload_n 3, 1), (36, .iload_n 2, 1), (37, .putfield 98, 3), (40, .aload_n 0, 1), (41, .getfield 36, 3), (44, .invokevirtual 73, 3), (47, .iload 4, 2), (49, .ireturn, 1)]]
def tb_c45 : List (List (Nat × ClassFile.Instr × Nat)) := [[(0, .aload_n 3, 1), (1, .iconst 0, 1), (2, .aload_n 0, 1), (3, .iload_n 1, 1), (4, .iload_n 2, 1), (5, .invokevirtual 26, 3), (8, .i2l, 1), (9, .lastore, 1), (10, .goto 11, 3), (13, .astore 4, 2), (15, .iconst 1, 1), (16, .ireturn, 1), (17, .astore 4, 2), (19, .iconst 2, 1), (20, .ireturn, 1), (21, .iconst 0, 1), (22, .ireturn, 1)]]
def tb_c46 : List (List (Nat × ClassFile.Instr × Nat)) := [[(0, .aload_n 0, 1), (1, .getfield 27, 3), (4, .iload_n 1, 1), (5, .invokevirtual 80, 3), (8, .astore_n 3, 1), (9, .iload_n 2, 1), (10, .iconst 0, 1), (11, .ldc 101, 2), (13, .invokestatic 58, 3), (16, .ifCond .ne 13, 3), (19, .new 51, 3), (22, .dup, 1), (23, .ldc 102, 2), (25, .invokespecial 55, 3), (28, .athrow, 1), (29, .aload_n 3, 1), (30, .getfield 104, 3), (33, .istore 4, 2), (35, .aload_n 3, 1), (36, .iload_n 2, 1), (37, .putfield 104, 3), (40, .aload_n 0, 1), (41, .getfield 36, 3), (44, .invokevirtual 73, 3), (47, .iload 4, 2), (49, .ireturn, 1)]]
def tb_c47 : List (List (Nat × ClassFile.Instr × Nat)) := [[(0, .aload_n 2, 1), (1, .iconst 0, 1), (2, .aload_n 0, 1), (3, .iload_n 1, 1), (4, .invokevirtual 29, 3), (7, .i2l, 1), (8, .lastore, 1), (9, .goto 6, 3), (12, .astore_n 3, 1), (13, .iconst 1, 1), (14, .ireturn, 1), (15, .iconst 0, 1), (16, .ireturn, 1)]]
def tb_c48 : List (List (Nat × ClassFile.Instr × Nat)) := [[(0, .aload_n 0, 1), (1, .getfield 27, 3), (4, .iload_n 1, 1), (5, .invokevirtual 80, 3), (8, .getfield 107, 3), (11, .ireturn, 1)]]
def tb_c49 : List (List (Nat × ClassFile.Instr × Nat)) := [[(0, .aload_n 2, 1), (1, .iconst 0, 1), (2, .aload_n 0, 1), (3, .iload_n 1, 1), (4, .invokevirtual 33, 3), (7, .i2l, 1), (8, .lastore, 1), (9, .goto 6, 3), (12, .astore_n 3, 1), (13, .iconst 1, 1), (14, .ireturn, 1), (15, .iconst 0, 1), (16, .ireturn, 1)]]
def tb_c50 : List (List (Nat × ClassFile.Instr × Nat)) := [[(0, .iload_n 1, 1), (1, .iconst 1, 1), (2, .sipush 1000, 3), (5, .invokestatic 58, 3), (8, .ifCond .ne 13, 3), (11, .new 51, 3), (14, .dup, 1), (15, .ldc 110, 2), (17, .invokespecial 55, 3), (20, .athrow, 1), (21, .aload_n 0, 1), (22, .getfield 36, 3), (25, .iload_n 1, 1), (26, .invokevirtual 112, 3), (29, .aload_n 0, 1), (30, .getfield 36, 3), (33, .iconst 0, 1), (34, .invokevirtual 115, 3), (37, .aload_n 0, 1), (38, .getfield 36, 3), (41, .getfield 118, 3), (44, .getfield 122, 3), (47, .ireturn, 1)]]
def tb_c51 : List (List (Nat × ClassFile.Instr × Nat)) := [[(0, .aload_n 0, 1), (1, .iload_n 1, 1), (2, .putfield 56, 3), (5, .aload_n 0, 1), (6, .iconst 0, 1), (7, .putfield 40, 3), (10, .aload_n 0, 1), (11, .iconst 0, 1), (12, .putfield 59, 3), (15, .aload_n 0, 1), (16, .getfield 12, 3), (19, .invokevirtual 53, 3), (22, .aload_n 0, 1), (23, .getfield 18, 3), (26, .invokevirtual 53, 3), (29, .return_, 1)]]
def tb_c52 : List (List (Nat × ClassFile.Instr × Nat)) := [[(0, .iload_n 1, 1), (1, .ifCond .lt 9, 3), (4, .iload_n 1, 1), (5, .bipush 8, 2), (7, .if_icmp .lt 4, 3), (10, .return_, 1), (11, .aload_n 0, 1), (12, .iload_n 1, 1), (13, .invokevirtual 63, 3), (16, .aload_n 0, 1), (17, .getfield 12, 3), (20, .getfield 67, 3), (23, .iload_n 1, 1), (24, .aaload, 1), (25, .astore_n 2, 1), (26, .iconst 0, 1), (27, .istore_n 3, 1), (28, .iload_n 3, 1), (29, .aload_n 0, 1), (30, .getfield 48, 3), (33, .getfield 71, 3), (36, .if_icmp .ge 98, 3), (39, .aload_n 0, 1), (40, .getfield 59, 3), (43, .ifCond .ne 91, 3), (46, .aload_n 0, 1), (47, .getfield 48, 3), (50, .getfield 76, 3), (53, .iload_n 3, 1), (54, .aaload, 1), (55, .astore 4, 2), (57, .aload_n 0, 1), (58, .getfield 12, 3), (61, .iload_n 3, 1), (62, .invokevirtual 80, 3)], [(65, .ifnonnull 7, 3), (68, .iconst 1, 1), (69, .goto 4, 3), (72, .iconst 0, 1), (73, .istore 5, 2), (75, .iconst 0, 1), (76, .istore 6, 2), (78, .iload 6, 2), (80, .bipush 6, 2), (82, .if_icmp .ge 46, 3), (85, .iload 5, 2), (87, .ifCond .eq 41, 3), (90, .aload_n 0, 1), (91, .getfield 59, 3), (94, .ifCond .ne 34, 3), (97, .aload 4, 2), (99, .getfield 84, 3), (102, .iload 6, 2), (104, .baload, 1), (105, .ifCond .eq 17, 3), (108, .aload_n 2, 1), (109, .iload_n 3, 1), (110, .aload 4, 2), (112, .iload 6, 2), (114, .invokevirtual 90, 3), (117, .aload_n 0, 1), (118, .aload_n 2, 1), (119, .invokevirtual 96, 3), (122, .iinc 6 1, 3), (125, .goto (-47), 3)], [(128, .iinc 3 1, 3), (131, .goto (-103), 3), (134, .return_, 1)]]
def tb_c53 : List (List (Nat × ClassFile.Instr × Nat)) := [[(0, .aload_n 0, 1), (1, .getfield 36, 3), (4, .iload_n 1, 1), (5, .bipush 8, 2), (7, .imul, 1), (8, .aaload, 1), (9, .aload_n 0, 1), (10, .getfield 44, 3), (13, .invokevirtual 100, 3), (16, .iconst 1, 1), (17, .istore_n 2, 1), (18, .iload_n 2, 1), (19, .aload_n 0, 1), (20, .getfield 28, 3), (23, .iload_n 1, 1), (24, .invokevirtual 104, 3), (27, .if_icmp .ge 36, 3), (30, .aload_n 0, 1), (31, .getfield 36, 3), (34, .iload_n 1, 1), (35, .bipush 8, 2), (37, .imul, 1), (38, .iload_n 2, 1), (39, .iadd, 1), (40, .aaload, 1), (41, .aload_n 0, 1), (42, .getfield 28, 3), (45, .iload_n 1, 1), (46, .iload_n 2, 1), (47, .invokevirtual 107, 3), (50, .aload_n 0, 1), (51, .getfield 12, 3), (54, .invokevirtual 111, 3), (57, .iinc 2 1, 3), (60, .goto (-42), 3), (63, .return_, 1)]]
def tb_c54 : List (List (Nat × ClassFile.Instr × Nat)) := [[(0, .aload_n 0, 1), (1, .iconst 0, 1), (2, .putfield 7, 3), (5, .aload_n 0, 1), (6, .aload_n 1, 1), (7, .getfield 13, 3), (10, .aload_n 1, 1), (11, .getfield 18, 3), (14, .imul, 1), (15, .putfield 21, 3), (18, .aload_n 0, 1), (19, .iconst 0, 1), (20, .putfield 24, 3), (23, .aload_n 0, 1), (24, .aload_n 1, 1), (25, .getfield 13, 3), (28, .putfield 27, 3), (31, .aload_n 0, 1), (32, .iconst 0, 1), (33, .putfield 30, 3), (36, .aload_n 0, 1), (37, .aload_n 1, 1), (38, .getfield 18, 3), (41, .putfield 33, 3), (44, .return_, 1)]]
def tb_c55 : List (List (Nat × ClassFile.Instr × Nat)) := [[(0, .iload_n 1, 1), (1, .ifCond .lt 18, 3), (4, .iload_n 1, 1), (5, .bipush 8, 2), (7, .if_icmp .ge 12, 3), (10, .aload_n 0, 1), (11, .getfield 16, 3), (14, .iload_n 1, 1), (15, .iaload, 1), (16, .goto 4, 3), (19, .iconst 0, 1), (20, .ireturn, 1)]]
def tb_c56 : List (List (Nat × ClassFile.Instr × Nat)) := [[(0, .iload_n 2, 1), (1, .ifCond .lt 23, 3), (4, .iload_n 2, 1), (5, .aload_n 0, 1), (6, .iload_n 1, 1), (7, .invokevirtual 20, 3), (10, .if_icmp .ge 14, 3), (13, .aload_n 0, 1), (14, .getfield 11, 3), (17, .iload_n 1, 1), (18, .aaload, 1), (19, .iload_n 2, 1), (20, .iaload, 1), (21, .goto 4, 3), (24, .iconst 0, 1), (25, .ireturn, 1)]]
def tb_c57 : List (List (Nat × ClassFile.Instr × Nat)) := [[(0, .aload_n 0, 1), (1, .iload_n 1, 1), (2, .putfield 7, 3), (5, .aload_n 0, 1), (6, .iconst 0, 1), (7, .putfield 21, 3), (10, .iconst 0, 1), (11, .istore_n 3, 1), (12, .iload_n 3, 1), (13, .aload_n 2, 1), (14, .getfield 36, 3), (17, .if_icmp .ge 32, 3), (20, .aload_n 2, 1), (21, .getfield 41, 3), (24, .iload_n 3, 1), (25, .aaload, 1), (26, .getfield 45, 3), (29, .iload_n 1, 1), (30, .if_icmp .ne 13, 3), (33, .aload_n 0, 1), (34, .aload_n 2, 1), (35, .getfield 41, 3), (38, .iload_n 3, 1), (39, .aaload, 1), (40, .invokevirtual 50, 3), (43, .iinc 3 1, 3), (46, .goto (-34), 3), (49, .return_, 1)]]
def tb_c58 : List (List (Nat × ClassFile.Instr × Nat)) := [[(0, .aload_n 0, 1), (1, .getfield 21, 3), (4, .ifCond .ne 7, 3), (7, .iconst 1, 1), (8, .goto 4, 3), (11, .iconst 0, 1), (12, .istore_n 2, 1), (13, .aload_n 0, 1), (14, .dup, 1), (15, .getfield 21, 3), (18, .aload_n 1, 1), (19, .getfield 54, 3), (22, .aload_n 1, 1), (23, .getfield 55, 3), (26, .imul, 1), (27, .iadd, 1), (28, .putfield 21, 3), (31, .aload_n 0, 1), (32, .iload_n 2, 1), (33, .ifCond .eq 10, 3), (36, .aload_n 1, 1), (37, .getfield 56, 3), (40, .goto 14, 3), (43, .aload_n 0, 1), (44, .getfield 24, 3), (47, .aload_n 1, 1), (48, .getfield 56, 3), (51, .invokestatic 59, 3), (54, .putfield 24, 3), (57, .aload_n 0, 1), (58, .iload_n 2, 1), (59, .ifCond .eq 10, 3), (62, .aload_n 1, 1), (63, .getfield 65, 3)], [(66, .goto 14, 3), (69, .aload_n 0, 1), (70, .getfield 27, 3), (73, .aload_n 1, 1), (74, .getfield 65, 3), (77, .invokestatic 66, 3), (80, .putfield 27, 3), (83, .aload_n 0, 1), (84, .iload_n 2, 1), (85, .ifCond .eq 10, 3), (88, .aload_n 1, 1), (89, .getfield 69, 3), (92, .goto 14, 3), (95, .aload_n 0, 1), (96, .getfield 30, 3), (99, .aload_n 1, 1), (100, .getfield 69, 3), (103, .invokestatic 59, 3), (106, .putfield 30, 3), (109, .aload_n 0, 1), (110, .iload_n 2, 1), (111, .ifCond .eq 10, 3), (114, .aload_n 1, 1), (115, .getfield 72, 3), (118, .goto 14, 3), (121, .aload_n 0, 1), (122, .getfield 33, 3), (125, .aload_n 1, 1), (126, .getfield 72, 3)], [(129, .invokestatic 66, 3), (132, .putfield 33, 3), (135, .return_, 1)]]
def tb_c59 : List (List (Nat × ClassFile.Instr × Nat)) := [[(0, .iconst 0, 1), (1, .istore_n 2, 1), (2, .iload_n 2, 1), (3, .aload_n 0, 1), (4, .getfield 20, 3), (7, .if_icmp .ge 29, 3), (10, .aload_n 0, 1), (11, .getfield 11, 3), (14, .iload_n 2, 1), (15, .aaload, 1), (16, .getfield 35, 3), (19, .iload_n 1, 1), (20, .if_icmp .ne 10, 3), (23, .aload_n 0, 1), (24, .getfield 11, 3), (27, .iload_n 2, 1), (28, .aaload, 1), (29, .areturn, 1), (30, .iinc 2 1, 3), (33, .goto (-31), 3), (36, .aconst_null, 1), (37, .areturn, 1)]]
def tb_c60 : List (List (Nat × ClassFile.Instr × Nat)) := [[(0, .aload_n 0, 1), (1, .iload_n 1, 1), (2, .putfield 13, 3), (5, .aload_n 0, 1), (6, .iload_n 3, 1), (7, .putfield 16, 3), (10, .aload_n 0, 1), (11, .aload_n 2, 1), (12, .iload_n 3, 1), (13, .invokevirtual 19, 3), (16, .putfield 25, 3), (19, .aload_n 0, 1), (20, .aload_n 2, 1), (21, .iload_n 3, 1), (22, .invokevirtual 28, 3), (25, .putfield 31, 3), (28, .aload_n 0, 1), (29, .aload_n 2, 1), (30, .iload_n 3, 1), (31, .invokevirtual 34, 3), (34, .putfield 37, 3), (37, .aload_n 0, 1), (38, .aload_n 2, 1), (39, .getfield 40, 3), (42, .putfield 43, 3), (45, .aload_n 0, 1), (46, .aload_n 2, 1), (47, .getfield 44, 3), (50, .putfield 47, 3), (53, .aload_n 0, 1), (54, .aload_n 2, 1), (55, .getfield 48, 3), (58, .putfield 51, 3), (61, .aload_n 0, 1), (62, .iconst 0, 1), (63, .putfield 52, 3)], [(66, .return_, 1)]]
def tb_c61 : List (List (Nat × ClassFile.Instr × Nat)) := [[(0, .aload_n 0, 1), (1, .getfield 28, 3), (4, .aload_n 1, 1), (5, .getfield 114, 3), (8, .invokevirtual 104, 3), (11, .istore_n 2, 1), (12, .iconst 0, 1), (13, .istore_n 3, 1), (14, .iload_n 3, 1), (15, .iload_n 2, 1), (16, .if_icmp .ge 93, 3), (19, .aload_n 0, 1), (20, .getfield 59, 3), (23, .ifCond .ne 86, 3), (26, .aload_n 0, 1), (27, .getfield 36, 3), (30, .aload_n 1, 1), (31, .getfield 114, 3), (34, .bipush 8, 2), (36, .imul, 1), (37, .iload_n 3, 1), (38, .iadd, 1), (39, .aaload, 1), (40, .astore 4, 2), (42, .aload_n 1, 1), (43, .aload 4, 2), (45, .getfield 117, 3), (48, .invokevirtual 120, 3), (51, .aload_n 1, 1), (52, .getfield 123, 3), (55, .aload_n 0, 1), (56, .getfield 12, 3), (59, .invokevirtual 124, 3), (62, .if_icmp .lt 41, 3)], [(65, .aload_n 1, 1), (66, .getfield 128, 3), (69, .aload_n 0, 1), (70, .getfield 44, 3), (73, .getfield 131, 3), (76, .if_icmp .gt 27, 3), (79, .aload_n 1, 1), (80, .getfield 136, 3), (83, .aload_n 1, 1), (84, .getfield 139, 3), (87, .imul, 1), (88, .aload 4, 2), (90, .getfield 142, 3), (93, .if_icmp .gt 10, 3), (96, .aload_n 0, 1), (97, .aload_n 1, 1), (98, .aload 4, 2), (100, .invokevirtual 145, 3), (103, .iinc 3 1, 3), (106, .goto (-92), 3), (109, .return_, 1)]]
def tb_c62 : List (List (Nat × ClassFile.Instr × Nat)) := [[(0, .aload_n 0, 1), (1, .iload_n 1, 1), (2, .putfield 58, 3), (5, .aload_n 0, 1), (6, .iload_n 1, 1), (7, .aload_n 0, 1), (8, .getfield 31, 3), (11, .iadd, 1), (12, .putfield 67, 3), (15, .return_, 1)]]
def tb_c63 : List (List (Nat × ClassFile.Instr × Nat)) := [[(0, .aload_n 0, 1), (1, .getfield 20, 3), (4, .ifCond .le 20, 3), (7, .aload_n 0, 1), (8, .getfield 11, 3), (11, .aload_n 0, 1), (12, .getfield 20, 3), (15, .iconst 1, 1), (16, .isub, 1), (17, .aaload, 1), (18, .getfield 38, 3), (21, .goto 4, 3), (24, .iconst 0, 1), (25, .ireturn, 1)]]
def tb_c64 : List (List (Nat × ClassFile.Instr × Nat)) := [[(0, .aload_n 2, 1), (1, .getfield 149, 3), (4, .aload_n 0, 1), (5, .getfield 12, 3), (8, .aload_n 2, 1), (9, .getfield 117, 3), (12, .invokevirtual 152, 3), (15, .invokestatic 155, 3), (18, .istore_n 3, 1), (19, .iconst 0, 1), (20, .istore 4, 2), (22, .iload 4, 2), (24, .aload_n 0, 1), (25, .getfield 31, 3), (28, .aload_n 1, 1), (29, .getfield 114, 3), (32, .invokevirtual 104, 3), (35, .if_icmp .ge 151, 3), (38, .aload_n 0, 1), (39, .getfield 59, 3), (42, .ifCond .ne 144, 3), (45, .aload_n 1, 1), (46, .aload_n 0, 1), (47, .getfield 31, 3), (50, .aload_n 1, 1), (51, .getfield 114, 3), (54, .iload 4, 2), (56, .invokevirtual 107, 3), (59, .invokevirtual 160, 3), (62, .aload_n 1, 1), (63, .getfield 163, 3)], [(66, .iload_n 3, 1), (67, .if_icmp .lt 18, 3), (70, .aload_n 1, 1), (71, .getfield 166, 3), (74, .aload_n 2, 1), (75, .getfield 169, 3), (78, .if_icmp .gt 7, 3), (81, .iconst 1, 1), (82, .goto 4, 3), (85, .iconst 0, 1), (86, .istore 5, 2), (88, .iconst 0, 1), (89, .istore 6, 2), (91, .iload 6, 2), (93, .aload_n 0, 1), (94, .getfield 24, 3), (97, .aload_n 1, 1), (98, .getfield 114, 3), (101, .invokevirtual 104, 3), (104, .if_icmp .ge 76, 3), (107, .iload 5, 2), (109, .ifCond .eq 71, 3), (112, .aload_n 0, 1), (113, .getfield 59, 3), (116, .ifCond .ne 64, 3), (119, .aload_n 1, 1), (120, .aload_n 0, 1), (121, .getfield 24, 3), (124, .aload_n 1, 1), (125, .getfield 114, 3)], [(128, .iload 6, 2), (130, .invokevirtual 107, 3), (133, .invokevirtual 170, 3), (136, .aload_n 1, 1), (137, .getfield 173, 3), (140, .aload_n 2, 1), (141, .getfield 176, 3), (144, .if_icmp .lt 30, 3), (147, .aload_n 1, 1), (148, .getfield 179, 3), (151, .aload_n 2, 1), (152, .getfield 182, 3), (155, .if_icmp .gt 19, 3), (158, .aload_n 0, 1), (159, .getfield 12, 3), (162, .aload_n 1, 1), (163, .invokevirtual 183, 3), (166, .ifCond .eq 8, 3), (169, .aload_n 0, 1), (170, .aload_n 1, 1), (171, .invokevirtual 187, 3), (174, .iinc 6 1, 3), (177, .goto (-86), 3), (180, .iinc 4 1, 3), (183, .goto (-161), 3), (186, .return_, 1)]]
def tb_c65 : List (List (Nat × ClassFile.Instr × Nat)) := [[(0, .aload_n 0, 1), (1, .getfield 20, 3), (4, .ifCond .le 38, 3), (7, .aload_n 0, 1), (8, .getfield 11, 3), (11, .aload_n 0, 1), (12, .getfield 20, 3), (15, .iconst 1, 1), (16, .isub, 1), (17, .aaload, 1), (18, .getfield 38, 3), (21, .iload_n 1, 1), (22, .if_icmp .ne 20, 3), (25, .aload_n 0, 1), (26, .getfield 11, 3), (29, .aload_n 0, 1), (30, .getfield 20, 3), (33, .iconst 1, 1), (34, .isub, 1), (35, .aaload, 1), (36, .getfield 41, 3), (39, .goto 4, 3), (42, .iconst 0, 1), (43, .ireturn, 1)]]
def tb_c66 : List (List (Nat × ClassFile.Instr × Nat)) := [[(0, .aload_n 0, 1), (1, .iload_n 1, 1), (2, .putfield 61, 3), (5, .aload_n 0, 1), (6, .iload_n 1, 1), (7, .aload_n 0, 1), (8, .getfield 37, 3), (11, .iadd, 1), (12, .putfield 70, 3), (15, .return_, 1)]]
def tb_c67 : List (List (Nat × ClassFile.Instr × Nat)) := [[(0, .aload_n 0, 1), (1, .iload_n 1, 1), (2, .putfield 55, 3), (5, .aload_n 0, 1), (6, .iload_n 1, 1), (7, .aload_n 0, 1), (8, .getfield 25, 3), (11, .iadd, 1), (12, .putfield 64, 3), (15, .return_, 1)]]
def tb_c68 : List (List (Nat × ClassFile.Instr × Nat)) := [[(0, .aload_n 0, 1), (1, .aload_n 1, 1), (2, .invokevirtual 44, 3), (5, .ifCond .eq 39, 3), (8, .aload_n 0, 1), (9, .aload_n 1, 1), (10, .invokevirtual 48, 3), (13, .ifCond .eq 31, 3), (16, .aload_n 0, 1), (17, .aload_n 1, 1), (18, .invokevirtual 51, 3), (21, .ifCond .eq 23, 3), (24, .aload_n 0, 1), (25, .aload_n 1, 1), (26, .invokevirtual 54, 3), (29, .ifCond .eq 15, 3), (32, .aload_n 0, 1), (33, .aload_n 1, 1), (34, .invokevirtual 57, 3), (37, .ifCond .eq 7, 3), (40, .iconst 1, 1), (41, .goto 4, 3), (44, .iconst 0, 1), (45, .ireturn, 1)]]
def tb_c69 : List (List (Nat × ClassFile.Instr × Nat)) := [[(0, .aload_n 0, 1), (1, .getfield 20, 3), (4, .ifCond .eq 21, 3), (7, .aload_n 1, 1), (8, .aload_n 0, 1), (9, .getfield 11, 3), (12, .aload_n 0, 1), (13, .getfield 20, 3), (16, .iconst 1, 1), (17, .isub, 1), (18, .aaload, 1), (19, .invokevirtual 60, 3), (22, .ifCond .eq 7, 3), (25, .iconst 1, 1), (26, .goto 4, 3), (29, .iconst 0, 1), (30, .ireturn, 1)]]
def tb_c70 : List (List (Nat × ClassFile.Instr × Nat)) := [[(0, .aload_n 0, 1), (1, .getfield 58, 3), (4, .aload_n 1, 1), (5, .getfield 58, 3), (8, .if_icmp .eq 20, 3), (11, .aload_n 0, 1), (12, .getfield 58, 3), (15, .aload_n 1, 1), (16, .getfield 58, 3), (19, .if_icmp .le 7, 3), (22, .iconst 1, 1), (23, .goto 4, 3), (26, .iconst 0, 1), (27, .ireturn, 1), (28, .aload_n 0, 1), (29, .getfield 61, 3), (32, .aload_n 1, 1), (33, .getfield 61, 3), (36, .if_icmp .eq 22, 3), (39, .aload_n 0, 1), (40, .getfield 61, 3), (43, .aload_n 1, 1), (44, .getfield 61, 3), (47, .if_icmp .le 7, 3), (50, .iconst 1, 1), (51, .goto 23, 3), (54, .iconst 0, 1), (55, .goto 19, 3), (58, .aload_n 0, 1), (59, .getfield 55, 3), (62, .aload_n 1, 1), (63, .getfield 55, 3)], [(66, .if_icmp .le 7, 3), (69, .iconst 1, 1), (70, .goto 4, 3), (73, .iconst 0, 1), (74, .ireturn, 1)]]
def tb_c71 : List (List (Nat × ClassFile.Instr × Nat)) := [[(0, .aload_n 1, 1), (1, .getfield 38, 3), (4, .ifCond .ne 5, 3), (7, .iconst 1, 1), (8, .ireturn, 1), (9, .iconst 0, 1), (10, .istore_n 2, 1), (11, .iconst 0, 1), (12, .istore_n 3, 1), (13, .iload_n 3, 1), (14, .aload_n 0, 1), (15, .getfield 20, 3), (18, .if_icmp .ge 22, 3), (21, .iload_n 2, 1), (22, .aload_n 1, 1), (23, .aload_n 0, 1), (24, .getfield 11, 3), (27, .iload_n 3, 1), (28, .aaload, 1), (29, .invokevirtual 66, 3), (32, .iadd, 1), (33, .istore_n 2, 1), (34, .iinc 3 1, 3), (37, .goto (-24), 3), (40, .iload_n 2, 1), (41, .aload_n 1, 1), (42, .getfield 70, 3), (45, .aload_n 1, 1), (46, .getfield 73, 3), (49, .imul, 1), (50, .if_icmp .ne 7, 3), (53, .iconst 1, 1), (54, .goto 4, 3), (57, .iconst 0, 1), (58, .ireturn, 1)]]
def tb_c72 : List (List (Nat × ClassFile.Instr × Nat)) := [[(0, .aload_n 0, 1), (1, .getfield 58, 3), (4, .aload_n 1, 1), (5, .getfield 67, 3), (8, .if_icmp .eq 5, 3), (11, .iconst 0, 1), (12, .ireturn, 1), (13, .aload_n 0, 1), (14, .getfield 64, 3), (17, .aload_n 1, 1), (18, .getfield 64, 3), (21, .invokestatic 73, 3), (24, .aload_n 0, 1), (25, .getfield 55, 3), (28, .aload_n 1, 1), (29, .getfield 55, 3), (32, .invokestatic 79, 3), (35, .isub, 1), (36, .istore_n 2, 1), (37, .aload_n 0, 1), (38, .getfield 70, 3), (41, .aload_n 1, 1), (42, .getfield 70, 3), (45, .invokestatic 73, 3), (48, .aload_n 0, 1), (49, .getfield 61, 3), (52, .aload_n 1, 1), (53, .getfield 61, 3), (56, .invokestatic 79, 3), (59, .isub, 1), (60, .istore_n 3, 1), (61, .iload_n 2, 1), (62, .ifCond .le 13, 3)], [(65, .iload_n 3, 1), (66, .ifCond .le 9, 3), (69, .iload_n 2, 1), (70, .iload_n 3, 1), (71, .imul, 1), (72, .goto 4, 3), (75, .iconst 0, 1), (76, .ireturn, 1)]]
def tb_c73 : List (List (Nat × ClassFile.Instr × Nat)) := [[(0, .iconst 0, 1), (1, .istore_n 2, 1), (2, .iload_n 2, 1), (3, .aload_n 0, 1), (4, .getfield 20, 3), (7, .if_icmp .ge 24, 3), (10, .aload_n 1, 1), (11, .aload_n 0, 1), (12, .getfield 11, 3), (15, .iload_n 2, 1), (16, .aaload, 1), (17, .invokevirtual 63, 3), (20, .ifCond .eq 5, 3), (23, .iconst 0, 1), (24, .ireturn, 1), (25, .iinc 2 1, 3), (28, .goto (-26), 3), (31, .iconst 1, 1), (32, .ireturn, 1)]]
def tb_c74 : List (List (Nat × ClassFile.Instr × Nat)) := [[(0, .aload_n 0, 1), (1, .getfield 55, 3), (4, .aload_n 1, 1), (5, .getfield 64, 3), (8, .if_icmp .ge 62, 3), (11, .aload_n 1, 1), (12, .getfield 55, 3), (15, .aload_n 0, 1), (16, .getfield 64, 3), (19, .if_icmp .ge 51, 3), (22, .aload_n 0, 1), (23, .getfield 61, 3), (26, .aload_n 1, 1), (27, .getfield 70, 3), (30, .if_icmp .ge 40, 3), (33, .aload_n 1, 1), (34, .getfield 61, 3), (37, .aload_n 0, 1), (38, .getfield 70, 3), (41, .if_icmp .ge 29, 3), (44, .aload_n 0, 1), (45, .getfield 58, 3), (48, .aload_n 1, 1), (49, .getfield 67, 3), (52, .if_icmp .ge 18, 3), (55, .aload_n 1, 1), (56, .getfield 58, 3), (59, .aload_n 0, 1), (60, .getfield 67, 3), (63, .if_icmp .ge 7, 3)], [(66, .iconst 1, 1), (67, .goto 4, 3), (70, .iconst 0, 1), (71, .ireturn, 1)]]
def tb_c75 : List (List (Nat × ClassFile.Instr × Nat)) := [[(0, .iconst 0, 1), (1, .istore_n 2, 1), (2, .iload_n 2, 1), (3, .aload_n 0, 1), (4, .getfield 20, 3), (7, .if_icmp .ge 42, 3), (10, .aload_n 0, 1), (11, .getfield 11, 3), (14, .iload_n 2, 1), (15, .aaload, 1), (16, .astore_n 3, 1), (17, .aload_n 3, 1), (18, .getfield 76, 3), (21, .aload_n 1, 1), (22, .getfield 79, 3), (25, .iadd, 1), (26, .aload_n 3, 1), (27, .getfield 82, 3), (30, .if_icmp .le 13, 3), (33, .aload_n 1, 1), (34, .aload_n 3, 1), (35, .invokevirtual 85, 3), (38, .ifCond .eq 5, 3), (41, .iconst 0, 1), (42, .ireturn, 1), (43, .iinc 2 1, 3), (46, .goto (-44), 3), (49, .iconst 1, 1), (50, .ireturn, 1)]]
def tb_c76 : List (List (Nat × ClassFile.Instr × Nat)) := [[(0, .aload_n 0, 1), (1, .getfield 58, 3), (4, .aload_n 1, 1), (5, .getfield 67, 3), (8, .if_icmp .lt 51, 3), (11, .aload_n 0, 1), (12, .getfield 55, 3), (15, .aload_n 1, 1), (16, .getfield 64, 3), (19, .if_icmp .ge 40, 3), (22, .aload_n 1, 1), (23, .getfield 55, 3), (26, .aload_n 0, 1), (27, .getfield 64, 3), (30, .if_icmp .ge 29, 3), (33, .aload_n 0, 1), (34, .getfield 61, 3), (37, .aload_n 1, 1), (38, .getfield 70, 3), (41, .if_icmp .ge 18, 3), (44, .aload_n 1, 1), (45, .getfield 61, 3), (48, .aload_n 0, 1), (49, .getfield 70, 3), (52, .if_icmp .ge 7, 3), (55, .iconst 1, 1), (56, .goto 4, 3), (59, .iconst 0, 1), (60, .ireturn, 1)]]
def tb_c77 : List (List (Nat × ClassFile.Instr × Nat)) := [[(0, .iconst 0, 1), (1, .istore_n 2, 1), (2, .iload_n 2, 1), (3, .aload_n 0, 1), (4, .getfield 20, 3), (7, .if_icmp .ge 37, 3), (10, .aload_n 1, 1), (11, .aload_n 0, 1), (12, .getfield 11, 3), (15, .iload_n 2, 1), (16, .aaload, 1), (17, .invokevirtual 88, 3), (20, .ifCond .ne 16, 3), (23, .aload_n 0, 1), (24, .getfield 11, 3), (27, .iload_n 2, 1), (28, .aaload, 1), (29, .aload_n 1, 1), (30, .invokevirtual 88, 3), (33, .ifCond .eq 5, 3), (36, .iconst 0, 1), (37, .ireturn, 1), (38, .iinc 2 1, 3), (41, .goto (-39), 3), (44, .iconst 1, 1), (45, .ireturn, 1)]]
def tb_c78 : List (List (Nat × ClassFile.Instr × Nat)) := [[(0, .aload_n 0, 1), (1, .getfield 47, 3), (4, .aload_n 1, 1), (5, .getfield 47, 3), (8, .if_icmp .le 62, 3), (11, .aload_n 0, 1), (12, .getfield 61, 3), (15, .aload_n 1, 1), (16, .getfield 70, 3), (19, .if_icmp .lt 51, 3), (22, .aload_n 0, 1), (23, .getfield 55, 3), (26, .aload_n 1, 1), (27, .getfield 64, 3), (30, .if_icmp .ge 40, 3), (33, .aload_n 1, 1), (34, .getfield 55, 3), (37, .aload_n 0, 1), (38, .getfield 64, 3), (41, .if_icmp .ge 29, 3), (44, .aload_n 0, 1), (45, .getfield 58, 3), (48, .aload_n 1, 1), (49, .getfield 67, 3), (52, .if_icmp .ge 18, 3), (55, .aload_n 1, 1), (56, .getfield 58, 3), (59, .aload_n 0, 1), (60, .getfield 67, 3), (63, .if_icmp .ge 7, 3)], [(66, .iconst 1, 1), (67, .goto 4, 3), (70, .iconst 0, 1), (71, .ireturn, 1)]]
def tb_c79 : List (List (Nat × ClassFile.Instr × Nat)) := [[(0, .aload_n 0, 1), (1, .getfield 40, 3), (4, .aload_n 0, 1), (5, .getfield 56, 3), (8, .if_icmp .lt 9, 3), (11, .aload_n 0, 1), (12, .iconst 1, 1), (13, .putfield 59, 3), (16, .return_, 1), (17, .aload_n 0, 1), (18, .dup, 1), (19, .getfield 40, 3), (22, .iconst 1, 1), (23, .iadd, 1), (24, .putfield 40, 3), (27, .aload_n 0, 1), (28, .getfield 12, 3), (31, .invokevirtual 190, 3), (34, .aload_n 0, 1), (35, .getfield 24, 3), (38, .aload_n 1, 1), (39, .getfield 114, 3), (42, .aload_n 1, 1), (43, .getfield 179, 3), (46, .invokevirtual 193, 3), (49, .aload_n 0, 1), (50, .getfield 28, 3), (53, .aload_n 1, 1), (54, .getfield 114, 3), (57, .aload_n 1, 1), (58, .getfield 128, 3), (61, .invokevirtual 193, 3)], [(64, .aload_n 0, 1), (65, .getfield 31, 3), (68, .aload_n 1, 1), (69, .getfield 114, 3), (72, .aload_n 1, 1), (73, .getfield 166, 3), (76, .invokevirtual 193, 3), (79, .aload_n 0, 1), (80, .getfield 12, 3), (83, .aload_n 0, 1), (84, .getfield 18, 3), (87, .invokevirtual 197, 3), (90, .ifCond .eq 14, 3), (93, .aload_n 0, 1), (94, .getfield 18, 3), (97, .aload_n 0, 1), (98, .getfield 12, 3), (101, .invokevirtual 201, 3), (104, .aload_n 0, 1), (105, .aload_n 1, 1), (106, .getfield 114, 3), (109, .iconst 1, 1), (110, .iadd, 1), (111, .invokevirtual 205, 3), (114, .aload_n 0, 1), (115, .getfield 12, 3), (118, .invokevirtual 208, 3), (121, .return_, 1)]]
def tb_c80 : List (List (Nat × ClassFile.Instr × Nat)) := [[(0, .aload_n 0, 1), (1, .getfield 20, 3), (4, .bipush 8, 2), (6, .if_icmp .ge 27, 3), (9, .aload_n 0, 1), (10, .aload_n 0, 1), (11, .getfield 11, 3), (14, .aload_n 0, 1), (15, .getfield 20, 3), (18, .aaload, 1), (19, .iconst 1, 1), (20, .invokevirtual 91, 3), (23, .aload_n 0, 1), (24, .dup, 1), (25, .getfield 20, 3), (28, .iconst 1, 1), (29, .iadd, 1), (30, .putfield 20, 3), (33, .return_, 1)]]
def tb_c81 : List (List (Nat × ClassFile.Instr × Nat)) := [[(0, .aload_n 0, 1), (1, .dup, 1), (2, .getfield 24, 3), (5, .iload_n 2, 1), (6, .aload_n 1, 1), (7, .getfield 70, 3), (10, .imul, 1), (11, .aload_n 1, 1), (12, .getfield 95, 3), (15, .imul, 1), (16, .aload_n 1, 1), (17, .getfield 73, 3), (20, .imul, 1), (21, .iadd, 1), (22, .putfield 24, 3), (25, .aload_n 0, 1), (26, .dup, 1), (27, .getfield 27, 3), (30, .iload_n 2, 1), (31, .aload_n 1, 1), (32, .getfield 79, 3), (35, .imul, 1), (36, .iconst 2, 1), (37, .aload_n 1, 1), (38, .getfield 38, 3), (41, .imul, 1), (42, .aload_n 1, 1), (43, .getfield 95, 3), (46, .iadd, 1), (47, .imul, 1), (48, .i2l, 1), (49, .ladd, 1), (50, .putfield 27, 3), (53, .iconst 0, 1), (54, .istore_n 3, 1), (55, .iload_n 3, 1), (56, .aload_n 0, 1), (57, .getfield 20, 3), (60, .if_icmp .ge 42, 3), (63, .aload_n 1, 1)], [(64, .aload_n 0, 1), (65, .getfield 11, 3), (68, .iload_n 3, 1), (69, .aaload, 1), (70, .invokevirtual 85, 3), (73, .ifCond .eq 23, 3), (76, .aload_n 0, 1), (77, .getfield 11, 3), (80, .iload_n 3, 1), (81, .aaload, 1), (82, .dup, 1), (83, .getfield 76, 3), (86, .iload_n 2, 1), (87, .aload_n 1, 1), (88, .getfield 79, 3), (91, .imul, 1), (92, .iadd, 1), (93, .putfield 76, 3), (96, .iinc 3 1, 3), (99, .goto (-44), 3), (102, .return_, 1)]]
def tb_c82 : List (List (Nat × ClassFile.Instr × Nat)) := [[(0, .iload_n 1, 1), (1, .ifCond .lt 9, 3), (4, .iload_n 1, 1), (5, .bipush 7, 2), (7, .if_icmp .lt 4, 3), (10, .return_, 1), (11, .aload_n 0, 1), (12, .getfield 11, 3), (15, .iload_n 1, 1), (16, .aaload, 1), (17, .astore_n 3, 1), (18, .aload_n 0, 1), (19, .getfield 11, 3), (22, .iload_n 1, 1), (23, .iconst 1, 1), (24, .iadd, 1), (25, .aaload, 1), (26, .astore 4, 2), (28, .aload_n 0, 1), (29, .getfield 16, 3), (32, .iload_n 1, 1), (33, .iaload, 1), (34, .bipush 7, 2), (36, .invokestatic 24, 3), (39, .istore 5, 2), (41, .iconst 0, 1), (42, .istore 6, 2), (44, .iload 6, 2), (46, .iload 5, 2), (48, .if_icmp .ge 26, 3), (51, .aload_n 3, 1), (52, .iload 6, 2), (54, .iaload, 1), (55, .iload_n 2, 1), (56, .if_icmp .ge 18, 3), (59, .aload 4, 2), (61, .iload 6, 2), (63, .aload_n 3, 1)], [(64, .iload 6, 2), (66, .iaload, 1), (67, .iastore, 1), (68, .iinc 6 1, 3), (71, .goto (-27), 3), (74, .iload 6, 2), (76, .iload 5, 2), (78, .if_icmp .ge 15, 3), (81, .aload_n 3, 1), (82, .iload 6, 2), (84, .iaload, 1), (85, .iload_n 2, 1), (86, .if_icmp .ne 7, 3), (89, .iconst 0, 1), (90, .goto 4, 3), (93, .iconst 1, 1), (94, .istore 7, 2), (96, .aload 4, 2), (98, .iload 6, 2), (100, .iload_n 2, 1), (101, .iastore, 1), (102, .iload 6, 2), (104, .istore 8, 2), (106, .iload 8, 2), (108, .iload 5, 2), (110, .if_icmp .ge 21, 3), (113, .aload 4, 2), (115, .iload 8, 2), (117, .iload 7, 2), (119, .iadd, 1), (120, .aload_n 3, 1), (121, .iload 8, 2), (123, .iaload, 1), (124, .iastore, 1), (125, .iinc 8 1, 3)], [(128, .goto (-22), 3), (131, .aload_n 0, 1), (132, .getfield 16, 3), (135, .iload_n 1, 1), (136, .iconst 1, 1), (137, .iadd, 1), (138, .iload 5, 2), (140, .iload 7, 2), (142, .iadd, 1), (143, .iastore, 1), (144, .return_, 1)]]
def tb_c83 : List (List (Nat × ClassFile.Instr × Nat)) := [[(0, .aload_n 0, 1), (1, .getfield 24, 3), (4, .aload_n 1, 1), (5, .getfield 24, 3), (8, .if_icmp .eq 22, 3), (11, .aload_n 0, 1), (12, .getfield 24, 3), (15, .aload_n 1, 1), (16, .getfield 24, 3), (19, .if_icmp .le 7, 3), (22, .iconst 1, 1), (23, .goto 24, 3), (26, .iconst 0, 1), (27, .goto 20, 3), (30, .aload_n 0, 1), (31, .getfield 27, 3), (34, .aload_n 1, 1), (35, .getfield 27, 3), (38, .lcmp, 1), (39, .ifCond .ge 7, 3), (42, .iconst 1, 1), (43, .goto 4, 3), (46, .iconst 0, 1), (47, .ireturn, 1)]]
def tb_c84 : List (List (Nat × ClassFile.Instr × Nat)) := [[(0, .iconst 0, 1), (1, .istore_n 2, 1), (2, .iload_n 2, 1), (3, .aload_n 1, 1), (4, .getfield 20, 3), (7, .if_icmp .ge 24, 3), (10, .aload_n 0, 1), (11, .getfield 11, 3), (14, .iload_n 2, 1), (15, .aaload, 1), (16, .aload_n 1, 1), (17, .getfield 11, 3), (20, .iload_n 2, 1), (21, .aaload, 1), (22, .invokevirtual 31, 3), (25, .iinc 2 1, 3), (28, .goto (-26), 3), (31, .aload_n 0, 1), (32, .aload_n 1, 1), (33, .getfield 20, 3), (36, .putfield 20, 3), (39, .aload_n 0, 1), (40, .aload_n 1, 1), (41, .getfield 24, 3), (44, .putfield 24, 3), (47, .aload_n 0, 1), (48, .aload_n 1, 1), (49, .getfield 27, 3), (52, .putfield 27, 3), (55, .return_, 1)]]
def tb_c85 : List (List (Nat × ClassFile.Instr × Nat)) := [[(0, .aload_n 0, 1), (1, .aload_n 1, 1), (2, .getfield 13, 3), (5, .putfield 13, 3), (8, .aload_n 0, 1), (9, .aload_n 1, 1), (10, .getfield 16, 3), (13, .putfield 16, 3), (16, .aload_n 0, 1), (17, .aload_n 1, 1), (18, .getfield 55, 3), (21, .putfield 55, 3), (24, .aload_n 0, 1), (25, .aload_n 1, 1), (26, .getfield 58, 3), (29, .putfield 58, 3), (32, .aload_n 0, 1), (33, .aload_n 1, 1), (34, .getfield 61, 3), (37, .putfield 61, 3), (40, .aload_n 0, 1), (41, .aload_n 1, 1), (42, .getfield 64, 3), (45, .putfield 64, 3), (48, .aload_n 0, 1), (49, .aload_n 1, 1), (50, .getfield 67, 3), (53, .putfield 67, 3), (56, .aload_n 0, 1), (57, .aload_n 1, 1), (58, .getfield 70, 3), (61, .putfield 70, 3)], [(64, .aload_n 0, 1), (65, .aload_n 1, 1), (66, .getfield 25, 3), (69, .putfield 25, 3), (72, .aload_n 0, 1), (73, .aload_n 1, 1), (74, .getfield 31, 3), (77, .putfield 31, 3), (80, .aload_n 0, 1), (81, .aload_n 1, 1), (82, .getfield 37, 3), (85, .putfield 37, 3), (88, .aload_n 0, 1), (89, .aload_n 1, 1), (90, .getfield 43, 3), (93, .putfield 43, 3), (96, .aload_n 0, 1), (97, .aload_n 1, 1), (98, .getfield 47, 3), (101, .putfield 47, 3), (104, .aload_n 0, 1), (105, .aload_n 1, 1), (106, .getfield 51, 3), (109, .putfield 51, 3), (112, .aload_n 0, 1), (113, .aload_n 1, 1), (114, .getfield 52, 3), (117, .putfield 52, 3), (120, .return_, 1)]]
def tb_c86 : List (List (Nat × ClassFile.Instr × Nat)) := [[(0, .aload_n 0, 1), (1, .getfield 20, 3), (4, .ifCond .le 27, 3), (7, .aload_n 0, 1), (8, .dup, 1), (9, .getfield 20, 3), (12, .iconst 1, 1), (13, .isub, 1), (14, .putfield 20, 3), (17, .aload_n 0, 1), (18, .aload_n 0, 1), (19, .getfield 11, 3), (22, .aload_n 0, 1), (23, .getfield 20, 3), (26, .aaload, 1), (27, .iconst (-1), 1), (28, .invokevirtual 91, 3), (31, .return_, 1)]]
def tb_c87 : List (List (Nat × ClassFile.Instr × Nat)) := [[(0, .aload_n 3, 1), (1, .iconst 0, 1), (2, .aload_n 0, 1), (3, .iload_n 1, 1), (4, .iload_n 2, 1), (5, .invokevirtual 36, 3), (8, .i2l, 1), (9, .lastore, 1), (10, .goto 11, 3), (13, .astore 4, 2), (15, .iconst 1, 1), (16, .ireturn, 1), (17, .astore 4, 2), (19, .iconst 2, 1), (20, .ireturn, 1), (21, .iconst 0, 1), (22, .ireturn, 1)]]
def tb_c88 : List (List (Nat × ClassFile.Instr × Nat)) := [[(0, .aload_n 0, 1), (1, .getfield 27, 3), (4, .iload_n 1, 1), (5, .invokevirtual 144, 3), (8, .iload_n 2, 1), (9, .iconst 0, 1), (10, .iconst 5, 1), (11, .invokestatic 58, 3), (14, .ifCond .ne 13, 3), (17, .new 51, 3), (20, .dup, 1), (21, .ldc 147, 2), (23, .invokespecial 55, 3), (26, .athrow, 1), (27, .aload_n 0, 1), (28, .getfield 36, 3), (31, .getfield 118, 3), (34, .iload_n 1, 1), (35, .invokevirtual 149, 3), (38, .astore_n 3, 1), (39, .aload_n 3, 1), (40, .ifnonnull 7, 3), (43, .iconst (-1), 1), (44, .goto 8, 3), (47, .aload_n 3, 1), (48, .iload_n 2, 1), (49, .invokevirtual 153, 3), (52, .ireturn, 1)]]
def tb_c89 : List (List (Nat × ClassFile.Instr × Nat)) := [[(0, .iload_n 1, 1), (1, .tableswitch 60 0 4 #[35, 40, 45, 50, 55], 35), (36, .aload_n 0, 1), (37, .getfield 55, 3), (40, .ireturn, 1), (41, .aload_n 0, 1), (42, .getfield 58, 3), (45, .ireturn, 1), (46, .aload_n 0, 1), (47, .getfield 61, 3), (50, .ireturn, 1), (51, .aload_n 0, 1), (52, .getfield 16, 3), (55, .ireturn, 1), (56, .aload_n 0, 1), (57, .getfield 7, 3), (60, .ireturn, 1), (61, .aload_n 0, 1), (62, .getfield 52, 3)], [(65, .ireturn, 1)]]
def tb_c90 : List (List (Nat × ClassFile.Instr × Nat)) := [[(0, .aload_n 3, 1), (1, .iconst 0, 1), (2, .aload_n 0, 1), (3, .iload_n 1, 1), (4, .iload_n 2, 1), (5, .invokevirtual 39, 3), (8, .i2l, 1), (9, .lastore, 1), (10, .goto 7, 3), (13, .astore 4, 2), (15, .iconst 1, 1), (16, .ireturn, 1), (17, .iconst 0, 1), (18, .ireturn, 1)]]
def tb_c91 : List (List (Nat × ClassFile.Instr × Nat)) := [[(0, .aload_n 0, 1), (1, .getfield 27, 3), (4, .iload_n 1, 1), (5, .invokevirtual 144, 3), (8, .aload_n 0, 1), (9, .getfield 27, 3), (12, .iload_n 2, 1), (13, .invokevirtual 144, 3), (16, .aload_n 0, 1), (17, .getfield 36, 3), (20, .getfield 118, 3), (23, .iload_n 1, 1), (24, .invokevirtual 149, 3), (27, .astore_n 3, 1), (28, .aload_n 0, 1), (29, .getfield 36, 3), (32, .getfield 118, 3), (35, .iload_n 2, 1), (36, .invokevirtual 149, 3), (39, .astore 4, 2), (41, .aload_n 3, 1), (42, .ifnull 8, 3), (45, .aload 4, 2), (47, .ifnonnull 7, 3), (50, .iconst 0, 1), (51, .goto 9, 3), (54, .aload 4, 2), (56, .aload_n 3, 1), (57, .invokevirtual 162, 3), (60, .ireturn, 1)]]
def tb_c92 : List (List (Nat × ClassFile.Instr × Nat)) := [[(0, .aload_n 2, 1), (1, .iconst 0, 1), (2, .aload_n 0, 1), (3, .iload_n 1, 1), (4, .invokevirtual 42, 3), (7, .i2l, 1), (8, .lastore, 1), (9, .goto 9, 3), (12, .astore_n 3, 1), (13, .iconst 1, 1), (14, .ireturn, 1), (15, .astore_n 3, 1), (16, .iconst 2, 1), (17, .ireturn, 1), (18, .iconst 0, 1), (19, .ireturn, 1)]]
def tb_c93 : List (List (Nat × ClassFile.Instr × Nat)) := [[(0, .iload_n 1, 1), (1, .iconst 0, 1), (2, .sipush 1000, 3), (5, .invokestatic 58, 3), (8, .ifCond .ne 13, 3), (11, .new 51, 3), (14, .dup, 1), (15, .ldc 166, 2), (17, .invokespecial 55, 3), (20, .athrow, 1), (21, .iload_n 1, 1), (22, .aload_n 0, 1), (23, .getfield 43, 3), (26, .invokevirtual 168, 3), (29, .if_icmp .gt 13, 3), (32, .new 51, 3), (35, .dup, 1), (36, .ldc 171, 2), (38, .invokespecial 55, 3), (41, .athrow, 1), (42, .aload_n 0, 1), (43, .getfield 43, 3), (46, .invokevirtual 173, 3), (49, .ifCond .eq 13, 3), (52, .new 68, 3), (55, .dup, 1), (56, .ldc 174, 2), (58, .invokespecial 72, 3), (61, .athrow, 1), (62, .aload_n 0, 1), (63, .getfield 43, 3)], [(66, .iload_n 1, 1), (67, .invokevirtual 176, 3), (70, .ireturn, 1)]]
def tb_c94 : List (List (Nat × ClassFile.Instr × Nat)) := [[(0, .aload_n 0, 1), (1, .getfield 15, 3), (4, .ifCond .le 17, 3), (7, .aload_n 0, 1), (8, .getfield 9, 3), (11, .aload_n 0, 1), (12, .getfield 15, 3), (15, .iconst 1, 1), (16, .isub, 1), (17, .iaload, 1), (18, .goto 4, 3), (21, .iconst (-1), 1), (22, .ireturn, 1)]]
def tb_c95 : List (List (Nat × ClassFile.Instr × Nat)) := [[(0, .aload_n 0, 1), (1, .getfield 15, 3), (4, .bipush 6, 2), (6, .if_icmp .lt 7, 3), (9, .iconst 1, 1), (10, .goto 4, 3), (13, .iconst 0, 1), (14, .ireturn, 1)]]
def tb_c96 : List (List (Nat × ClassFile.Instr × Nat)) := [[(0, .aload_n 0, 1), (1, .invokevirtual 19, 3), (4, .ifCond .eq 5, 3), (7, .iconst (-1), 1), (8, .ireturn, 1), (9, .aload_n 0, 1), (10, .getfield 9, 3), (13, .aload_n 0, 1), (14, .getfield 15, 3), (17, .iload_n 1, 1), (18, .iastore, 1), (19, .aload_n 0, 1), (20, .dup, 1), (21, .getfield 15, 3), (24, .iconst 1, 1), (25, .iadd, 1), (26, .putfield 15, 3), (29, .aload_n 0, 1), (30, .getfield 15, 3), (33, .iconst 1, 1), (34, .isub, 1), (35, .ireturn, 1)]]
def tb_c97 : List (List (Nat × ClassFile.Instr × Nat)) := [[(0, .aload_n 3, 1), (1, .iconst 0, 1), (2, .aload_n 0, 1), (3, .iload_n 1, 1), (4, .iload_n 2, 1), (5, .invokevirtual 45, 3), (8, .lastore, 1), (9, .goto 15, 3), (12, .astore 4, 2), (14, .iconst 1, 1), (15, .ireturn, 1), (16, .astore 4, 2), (18, .iconst 2, 1), (19, .ireturn, 1), (20, .astore 4, 2), (22, .iconst 3, 1), (23, .ireturn, 1), (24, .iconst 0, 1), (25, .ireturn, 1)]]
def tb_c98 : List (List (Nat × ClassFile.Instr × Nat)) := [[(0, .aload_n 0, 1), (1, .getfield 43, 3), (4, .getfield 178, 3), (7, .ifCond .ne 13, 3), (10, .new 181, 3), (13, .dup, 1), (14, .ldc 183, 2), (16, .invokespecial 185, 3), (19, .athrow, 1), (20, .aload_n 0, 1), (21, .getfield 43, 3), (24, .iload_n 1, 1), (25, .invokevirtual 186, 3), (28, .ifCond .ne 13, 3), (31, .new 189, 3), (34, .dup, 1), (35, .ldc 191, 2), (37, .invokespecial 193, 3), (40, .athrow, 1), (41, .iload_n 2, 1), (42, .iconst 0, 1), (43, .iconst 1, 1), (44, .invokestatic 58, 3), (47, .ifCond .ne 13, 3), (50, .new 51, 3), (53, .dup, 1), (54, .ldc 194, 2), (56, .invokespecial 55, 3), (59, .athrow, 1), (60, .aload_n 0, 1), (61, .getfield 43, 3)], [(64, .iload_n 1, 1), (65, .iload_n 2, 1), (66, .aload_n 0, 1), (67, .getfield 36, 3), (70, .getfield 118, 3), (73, .invokevirtual 196, 3), (76, .lreturn, 1)]]
def tb_c99 : List (List (Nat × ClassFile.Instr × Nat)) := [[(0, .iload_n 1, 1), (1, .ifCond .lt 15, 3), (4, .iload_n 1, 1), (5, .aload_n 0, 1), (6, .getfield 15, 3), (9, .if_icmp .ge 7, 3), (12, .iconst 1, 1), (13, .goto 4, 3), (16, .iconst 0, 1), (17, .ireturn, 1)]]
def tb_c100 : List (List (Nat × ClassFile.Instr × Nat)) := [[(0, .aload_n 0, 1), (1, .iload_n 1, 1), (2, .iconst 1, 1), (3, .isub, 1), (4, .invokevirtual 23, 3), (7, .i2l, 1), (8, .lstore 4, 2), (10, .aload_n 0, 1), (11, .iload_n 1, 1), (12, .invokevirtual 23, 3), (15, .i2l, 1), (16, .lstore 6, 2), (18, .aload_n 0, 1), (19, .iload_n 1, 1), (20, .aload_n 3, 1), (21, .invokevirtual 27, 3), (24, .lload 6, 2), (26, .lmul, 1), (27, .aload_n 0, 1), (28, .iload_n 1, 1), (29, .aload_n 3, 1), (30, .invokevirtual 31, 3), (33, .lload 4, 2), (35, .lmul, 1), (36, .ladd, 1), (37, .lstore 8, 2), (39, .lload 8, 2), (41, .lload 4, 2), (43, .lload 6, 2), (45, .lmul, 1), (46, .iload_n 2, 1), (47, .invokestatic 34, 3), (50, .lreturn, 1)]]
def tb_c101 : List (List (Nat × ClassFile.Instr × Nat)) := [[(0, .aload_n 0, 1), (1, .iload_n 1, 1), (2, .invokevirtual 38, 3), (5, .ifCond .eq 33, 3), (8, .aload_n 0, 1), (9, .iload_n 1, 1), (10, .iconst 1, 1), (11, .iadd, 1), (12, .invokevirtual 38, 3), (15, .ifCond .eq 23, 3), (18, .iconst 2, 1), (19, .aload_n 0, 1), (20, .getfield 9, 3), (23, .iload_n 1, 1), (24, .iconst 1, 1), (25, .iadd, 1), (26, .iaload, 1), (27, .aload_n 0, 1), (28, .getfield 9, 3), (31, .iload_n 1, 1), (32, .iaload, 1), (33, .isub, 1), (34, .imul, 1), (35, .goto 4, 3), (38, .iconst 1, 1), (39, .ireturn, 1)]]
def tb_c102 : List (List (Nat × ClassFile.Instr × Nat)) := [[(0, .lconst 0, 1), (1, .lstore_n 3, 1), (2, .iconst 0, 1), (3, .istore 5, 2), (5, .iload 5, 2), (7, .aload_n 2, 1), (8, .getfield 42, 3), (11, .if_icmp .ge 79, 3), (14, .aload_n 2, 1), (15, .getfield 47, 3), (18, .iload 5, 2), (20, .aaload, 1), (21, .astore 6, 2), (23, .iconst 2, 1), (24, .aload 6, 2), (26, .getfield 51, 3), (29, .imul, 1), (30, .aload 6, 2), (32, .getfield 56, 3), (35, .iadd, 1), (36, .istore 7, 2), (38, .aload_n 0, 1), (39, .iload_n 1, 1), (40, .iconst 1, 1), (41, .isub, 1), (42, .invokevirtual 38, 3), (45, .ifCond .eq 39, 3), (48, .aload_n 0, 1), (49, .iload 7, 2), (51, .invokevirtual 59, 3), (54, .iload_n 1, 1), (55, .iconst 1, 1), (56, .isub, 1), (57, .if_icmp .ne 27, 3), (60, .lload_n 3, 1), (61, .aload 6, 2), (63, .getfield 62, 3)], [(66, .i2l, 1), (67, .iload 7, 2), (69, .iconst 2, 1), (70, .aload_n 0, 1), (71, .getfield 9, 3), (74, .iload_n 1, 1), (75, .iconst 1, 1), (76, .isub, 1), (77, .iaload, 1), (78, .imul, 1), (79, .isub, 1), (80, .i2l, 1), (81, .lmul, 1), (82, .ladd, 1), (83, .lstore_n 3, 1), (84, .iinc 5 1, 3), (87, .goto (-82), 3), (90, .lload_n 3, 1), (91, .lreturn, 1)]]
def tb_c103 : List (List (Nat × ClassFile.Instr × Nat)) := [[(0, .iconst 0, 1), (1, .istore_n 2, 1), (2, .iconst 1, 1), (3, .istore_n 3, 1), (4, .iload_n 3, 1), (5, .aload_n 0, 1), (6, .getfield 15, 3), (9, .iconst 1, 1), (10, .isub, 1), (11, .if_icmp .ge 23, 3), (14, .iconst 2, 1), (15, .aload_n 0, 1), (16, .getfield 9, 3), (19, .iload_n 3, 1), (20, .iaload, 1), (21, .imul, 1), (22, .iload_n 1, 1), (23, .if_icmp .gt 5, 3), (26, .iload_n 3, 1), (27, .istore_n 2, 1), (28, .iinc 3 1, 3), (31, .goto (-27), 3), (34, .iload_n 2, 1), (35, .ireturn, 1)]]
def tb_c104 : List (List (Nat × ClassFile.Instr × Nat)) := [[(0, .lconst 0, 1), (1, .lstore_n 3, 1), (2, .iconst 0, 1), (3, .istore 5, 2), (5, .iload 5, 2), (7, .aload_n 2, 1), (8, .getfield 42, 3), (11, .if_icmp .ge 97, 3), (14, .aload_n 2, 1), (15, .getfield 47, 3), (18, .iload 5, 2), (20, .aaload, 1), (21, .astore 6, 2), (23, .iconst 2, 1), (24, .aload 6, 2), (26, .getfield 51, 3), (29, .imul, 1), (30, .aload 6, 2), (32, .getfield 56, 3), (35, .iadd, 1), (36, .istore 7, 2), (38, .aload_n 0, 1), (39, .getfield 15, 3), (42, .iconst 1, 1), (43, .if_icmp .ne 15, 3), (46, .lload_n 3, 1), (47, .aload 6, 2), (49, .getfield 62, 3), (52, .i2l, 1), (53, .ladd, 1), (54, .lstore_n 3, 1), (55, .goto 47, 3), (58, .aload_n 0, 1), (59, .iload_n 1, 1), (60, .iconst 1, 1), (61, .iadd, 1), (62, .invokevirtual 38, 3)], [(65, .ifCond .eq 37, 3), (68, .aload_n 0, 1), (69, .iload 7, 2), (71, .invokevirtual 59, 3), (74, .iload_n 1, 1), (75, .if_icmp .ne 27, 3), (78, .lload_n 3, 1), (79, .aload 6, 2), (81, .getfield 62, 3), (84, .i2l, 1), (85, .iconst 2, 1), (86, .aload_n 0, 1), (87, .getfield 9, 3), (90, .iload_n 1, 1), (91, .iconst 1, 1), (92, .iadd, 1), (93, .iaload, 1), (94, .imul, 1), (95, .iload 7, 2), (97, .isub, 1), (98, .i2l, 1), (99, .lmul, 1), (100, .ladd, 1), (101, .lstore_n 3, 1), (102, .iinc 5 1, 3), (105, .goto (-100), 3), (108, .lload_n 3, 1), (109, .lreturn, 1)]]
def tb_c105 : List (List (Nat × ClassFile.Instr × Nat)) := [[(0, .iload 4, 2), (2, .ifCond .ne 7, 3), (5, .lload_n 0, 1), (6, .goto 4, 3), (9, .lload_n 2, 1), (10, .lstore 5, 2), (12, .lload_n 0, 1), (13, .invokestatic 65, 3), (16, .lload_n 2, 1), (17, .invokestatic 71, 3), (20, .lstore 7, 2), (22, .lload 7, 2), (24, .lconst 1, 1), (25, .lcmp, 1), (26, .ifCond .le 11, 3), (29, .lload 5, 2), (31, .lload 7, 2), (33, .ldiv, 1), (34, .goto 5, 3), (37, .lload 5, 2), (39, .lreturn, 1)]]
def tb_c106 : List (List (Nat × ClassFile.Instr × Nat)) := [[(0, .lload_n 0, 1), (1, .lconst 0, 1), (2, .lcmp, 1), (3, .ifCond .ge 8, 3), (6, .lload_n 0, 1), (7, .lneg, 1), (8, .goto 4, 3), (11, .lload_n 0, 1), (12, .lreturn, 1)]]
def tb_c107 : List (List (Nat × ClassFile.Instr × Nat)) := [[(0, .lload_n 0, 1), (1, .lstore 4, 2), (3, .lload_n 2, 1), (4, .lstore 6, 2), (6, .iconst 0, 1), (7, .istore 8, 2), (9, .iload 8, 2), (11, .sipush 1000, 3), (14, .if_icmp .ge 31, 3), (17, .lload 6, 2), (19, .lconst 0, 1), (20, .lcmp, 1), (21, .ifCond .eq 24, 3), (24, .lload 4, 2), (26, .lload 6, 2), (28, .lrem, 1), (29, .lstore 9, 2), (31, .lload 6, 2), (33, .lstore 4, 2), (35, .lload 9, 2), (37, .lstore 6, 2), (39, .iinc 8 1, 3), (42, .goto (-33), 3), (45, .lload 4, 2), (47, .lreturn, 1)]]
def tb_c108 : List (List (Nat × ClassFile.Instr × Nat)) := [[(0, .aload_n 0, 1), (1, .invokespecial 1, 3), (4, .aload_n 0, 1), (5, .iconst 3, 1), (6, .newarray .int, 2), (8, .putfield 7, 3), (11, .aload_n 0, 1), (12, .bipush 24, 2), (14, .newarray .int, 2), (16, .putfield 13, 3), (19, .aload_n 0, 1), (20, .bipush 8, 2), (22, .newarray .int, 2), (24, .putfield 16, 3), (27, .aload_n 0, 1), (28, .bipush 8, 2), (30, .newarray .int, 2), (32, .putfield 19, 3), (35, .aload_n 0, 1), (36, .bipush 8, 2), (38, .newarray .int, 2), (40, .putfield 22, 3), (43, .aload_n 0, 1), (44, .bipush 8, 2), (46, .newarray .int, 2), (48, .putfield 25, 3), (51, .aload_n 0, 1), (52, .bipush 8, 2), (54, .newarray .int, 2), (56, .putfield 28, 3), (59, .aload_n 0, 1), (60, .bipush 8, 2), (62, .newarray .int, 2)], [(64, .putfield 31, 3), (67, .aload_n 0, 1), (68, .bipush 24, 2), (70, .newarray .int, 2), (72, .putfield 34, 3), (75, .aload_n 0, 1), (76, .bipush 24, 2), (78, .newarray .int, 2), (80, .putfield 37, 3), (83, .aload_n 0, 1), (84, .bipush 8, 2), (86, .newarray .int, 2), (88, .putfield 40, 3), (91, .aload_n 0, 1), (92, .bipush 8, 2), (94, .newarray .boolean, 2), (96, .putfield 43, 3), (99, .aload_n 0, 1), (100, .bipush 9, 2), (102, .newarray .int, 2), (104, .putfield 47, 3), (107, .aload_n 0, 1), (108, .bipush 9, 2), (110, .newarray .int, 2), (112, .putfield 50, 3), (115, .aload_n 0, 1), (116, .bipush 9, 2), (118, .newarray .int, 2), (120, .putfield 53, 3), (123, .aload_n 0, 1), (124, .sipush 243, 3), (127, .newarray .int, 2)], [(129, .putfield 56, 3), (132, .aload_n 0, 1), (133, .bipush 27, 2), (135, .newarray .int, 2), (137, .putfield 59, 3), (140, .aload_n 0, 1), (141, .bipush 8, 2), (143, .newarray .int, 2), (145, .putfield 62, 3), (148, .aload_n 0, 1), (149, .bipush 8, 2), (151, .newarray .int, 2), (153, .putfield 65, 3), (156, .aload_n 0, 1), (157, .bipush 24, 2), (159, .newarray .int, 2), (161, .putfield 68, 3), (164, .aload_n 0, 1), (165, .bipush 24, 2), (167, .newarray .int, 2), (169, .putfield 71, 3), (172, .aload_n 0, 1), (173, .bipush 8, 2), (175, .newarray .int, 2), (177, .putfield 74, 3), (180, .aload_n 0, 1), (181, .bipush 6, 2), (183, .newarray .int, 2), (185, .putfield 77, 3), (188, .aload_n 0, 1), (189, .iconst 3, 1), (190, .newarray .int, 2)], [(192, .putfield 80, 3), (195, .aload_n 0, 1), (196, .getfield 7, 3), (199, .iconst 0, 1), (200, .iload_n 1, 1), (201, .invokestatic 83, 3), (204, .iastore, 1), (205, .aload_n 0, 1), (206, .getfield 7, 3), (209, .iconst 1, 1), (210, .iload_n 2, 1), (211, .invokestatic 83, 3), (214, .iastore, 1), (215, .aload_n 0, 1), (216, .getfield 7, 3), (219, .iconst 2, 1), (220, .iload_n 3, 1), (221, .invokestatic 83, 3), (224, .iastore, 1), (225, .return_, 1)]]
def tb_c109 : List (List (Nat × ClassFile.Instr × Nat)) := [[(0, .iload_n 0, 1), (1, .iconst 1, 1), (2, .if_icmp .ge 7, 3), (5, .iconst 1, 1), (6, .goto 17, 3), (9, .iload_n 0, 1), (10, .sipush 200, 3), (13, .if_icmp .le 9, 3), (16, .sipush 200, 3), (19, .goto 4, 3), (22, .iload_n 0, 1), (23, .ireturn, 1)]]
def tb_c110 : List (List (Nat × ClassFile.Instr × Nat)) := [[(0, .aload_n 0, 1), (1, .getfield 87, 3), (4, .ireturn, 1)]]
def tb_c111 : List (List (Nat × ClassFile.Instr × Nat)) := [[(0, .iload_n 1, 1), (1, .iconst 1, 1), (2, .sipush 200, 3), (5, .invokestatic 94, 3), (8, .ifCond .eq 41, 3), (11, .iload_n 2, 1), (12, .iconst 1, 1), (13, .sipush 200, 3), (16, .invokestatic 94, 3), (19, .ifCond .eq 30, 3), (22, .iload_n 3, 1), (23, .iconst 1, 1), (24, .sipush 200, 3), (27, .invokestatic 94, 3), (30, .ifCond .eq 19, 3), (33, .iload 4, 2), (35, .iconst 1, 1), (36, .sipush 10000, 3), (39, .invokestatic 94, 3), (42, .ifCond .eq 7, 3), (45, .iconst 1, 1), (46, .goto 4, 3), (49, .iconst 0, 1), (50, .istore 5, 2), (52, .aload_n 0, 1), (53, .iload 5, 2), (55, .ifCond .ne 7, 3), (58, .iconst 1, 1), (59, .goto 17, 3), (62, .aload_n 0, 1), (63, .getfield 91, 3)], [(66, .bipush 8, 2), (68, .if_icmp .ne 7, 3), (71, .iconst 2, 1), (72, .goto 4, 3), (75, .iconst 0, 1), (76, .putfield 87, 3), (79, .aload_n 0, 1), (80, .getfield 87, 3), (83, .ifCond .le 5, 3), (86, .iconst 0, 1), (87, .ireturn, 1), (88, .aload_n 0, 1), (89, .getfield 13, 3), (92, .iconst 3, 1), (93, .aload_n 0, 1), (94, .getfield 91, 3), (97, .imul, 1), (98, .iload_n 1, 1), (99, .iastore, 1), (100, .aload_n 0, 1), (101, .getfield 13, 3), (104, .iconst 3, 1), (105, .aload_n 0, 1), (106, .getfield 91, 3), (109, .imul, 1), (110, .iconst 1, 1), (111, .iadd, 1), (112, .iload_n 2, 1), (113, .iastore, 1), (114, .aload_n 0, 1), (115, .getfield 13, 3), (118, .iconst 3, 1), (119, .aload_n 0, 1), (120, .getfield 91, 3), (123, .imul, 1), (124, .iconst 2, 1), (125, .iadd, 1), (126, .iload_n 3, 1), (127, .iastore, 1)], [(128, .aload_n 0, 1), (129, .getfield 16, 3), (132, .aload_n 0, 1), (133, .getfield 91, 3), (136, .iload 4, 2), (138, .iastore, 1), (139, .aload_n 0, 1), (140, .getfield 19, 3), (143, .aload_n 0, 1), (144, .getfield 91, 3), (147, .iconst 0, 1), (148, .iastore, 1), (149, .aload_n 0, 1), (150, .getfield 22, 3), (153, .aload_n 0, 1), (154, .getfield 91, 3), (157, .iconst 0, 1), (158, .iastore, 1), (159, .aload_n 0, 1), (160, .getfield 25, 3), (163, .aload_n 0, 1), (164, .getfield 91, 3), (167, .ldc 112, 2), (169, .iastore, 1), (170, .aload_n 0, 1), (171, .dup, 1), (172, .getfield 91, 3), (175, .iconst 1, 1), (176, .iadd, 1), (177, .putfield 91, 3), (180, .aload_n 0, 1), (181, .invokevirtual 113, 3), (184, .aload_n 0, 1), (185, .getfield 91, 3), (188, .iconst 1, 1), (189, .isub, 1), (190, .ireturn, 1)]]
def tb_c112 : List (List (Nat × ClassFile.Instr × Nat)) := [[(0, .iload_n 0, 1), (1, .iload_n 1, 1), (2, .if_icmp .lt 12, 3), (5, .iload_n 0, 1), (6, .iload_n 2, 1), (7, .if_icmp .gt 7, 3), (10, .iconst 1, 1), (11, .goto 4, 3), (14, .iconst 0, 1), (15, .ireturn, 1)]]
def tb_c113 : List (List (Nat × ClassFile.Instr × Nat)) := [[(0, .aload_n 0, 1), (1, .iconst 0, 1), (2, .putfield 98, 3), (5, .aload_n 0, 1), (6, .iconst 0, 1), (7, .putfield 102, 3), (10, .aload_n 0, 1), (11, .lconst 0, 1), (12, .putfield 105, 3), (15, .aload_n 0, 1), (16, .lconst 0, 1), (17, .putfield 109, 3), (20, .return_, 1)]]
def tb_c114 : List (List (Nat × ClassFile.Instr × Nat)) := [[(0, .aload_n 0, 1), (1, .aload_n 0, 1), (2, .iload_n 1, 1), (3, .invokevirtual 116, 3), (6, .ifCond .ne 7, 3), (9, .iconst 1, 1), (10, .goto 17, 3), (13, .iload_n 2, 1), (14, .iconst 0, 1), (15, .iconst 3, 1), (16, .invokestatic 94, 3), (19, .ifCond .eq 7, 3), (22, .iconst 0, 1), (23, .goto 4, 3), (26, .iconst 2, 1), (27, .putfield 87, 3), (30, .aload_n 0, 1), (31, .getfield 87, 3), (34, .ifCond .le 5, 3), (37, .iconst 0, 1), (38, .ireturn, 1), (39, .aload_n 0, 1), (40, .getfield 19, 3), (43, .iload_n 1, 1), (44, .iaload, 1), (45, .istore_n 3, 1), (46, .aload_n 0, 1), (47, .getfield 19, 3), (50, .iload_n 1, 1), (51, .iload_n 2, 1), (52, .iastore, 1), (53, .aload_n 0, 1), (54, .invokevirtual 113, 3), (57, .iload_n 3, 1), (58, .ireturn, 1)]]
def tb_c115 : List (List (Nat × ClassFile.Instr × Nat)) := [[(0, .iload_n 1, 1), (1, .iconst 0, 1), (2, .aload_n 0, 1), (3, .getfield 91, 3), (6, .iconst 1, 1), (7, .isub, 1), (8, .invokestatic 94, 3), (11, .ireturn, 1)]]
def tb_c116 : List (List (Nat × ClassFile.Instr × Nat)) := [[(0, .aload_n 0, 1), (1, .aload_n 0, 1), (2, .iload_n 1, 1), (3, .invokevirtual 116, 3), (6, .ifCond .ne 7, 3), (9, .iconst 1, 1), (10, .goto 18, 3), (13, .iload_n 2, 1), (14, .iconst 0, 1), (15, .bipush 9, 2), (17, .invokestatic 94, 3), (20, .ifCond .eq 7, 3), (23, .iconst 0, 1), (24, .goto 4, 3), (27, .iconst 2, 1), (28, .putfield 87, 3), (31, .aload_n 0, 1), (32, .getfield 87, 3), (35, .ifCond .le 5, 3), (38, .iconst 0, 1), (39, .ireturn, 1), (40, .aload_n 0, 1), (41, .getfield 22, 3), (44, .iload_n 1, 1), (45, .iaload, 1), (46, .istore_n 3, 1), (47, .aload_n 0, 1), (48, .getfield 22, 3), (51, .iload_n 1, 1), (52, .iload_n 2, 1), (53, .iastore, 1), (54, .aload_n 0, 1), (55, .invokevirtual 113, 3), (58, .iload_n 3, 1), (59, .ireturn, 1)]]
def tb_c117 : List (List (Nat × ClassFile.Instr × Nat)) := [[(0, .aload_n 0, 1), (1, .aload_n 0, 1), (2, .iload_n 1, 1), (3, .invokevirtual 116, 3), (6, .ifCond .ne 7, 3), (9, .iconst 1, 1), (10, .goto 18, 3), (13, .iload_n 2, 1), (14, .iconst 0, 1), (15, .ldc 112, 2), (17, .invokestatic 94, 3), (20, .ifCond .eq 7, 3), (23, .iconst 0, 1), (24, .goto 4, 3), (27, .iconst 2, 1), (28, .putfield 87, 3), (31, .aload_n 0, 1), (32, .getfield 87, 3), (35, .ifCond .le 5, 3), (38, .iconst 0, 1), (39, .ireturn, 1), (40, .aload_n 0, 1), (41, .getfield 25, 3), (44, .iload_n 1, 1), (45, .iaload, 1), (46, .istore_n 3, 1), (47, .aload_n 0, 1), (48, .getfield 25, 3), (51, .iload_n 1, 1), (52, .iload_n 2, 1), (53, .iastore, 1), (54, .aload_n 0, 1), (55, .invokevirtual 113, 3), (58, .iload_n 3, 1), (59, .ireturn, 1)]]
def tb_c118 : List (List (Nat × ClassFile.Instr × Nat)) := [[(0, .aload_n 0, 1), (1, .aload_n 0, 1), (2, .iload_n 1, 1), (3, .invokevirtual 116, 3), (6, .ifCond .eq 7, 3), (9, .iconst 0, 1), (10, .goto 4, 3), (13, .iconst 1, 1), (14, .putfield 87, 3), (17, .aload_n 0, 1), (18, .getfield 87, 3), (21, .ifCond .le 7, 3), (24, .iconst 0, 1), (25, .goto 8, 3), (28, .aload_n 0, 1), (29, .iload_n 1, 1), (30, .invokevirtual 134, 3), (33, .ireturn, 1)]]
def tb_c119 : List (List (Nat × ClassFile.Instr × Nat)) := [[(0, .iconst 0, 1), (1, .istore_n 2, 1), (2, .iconst 0, 1), (3, .istore_n 3, 1), (4, .iload_n 3, 1), (5, .bipush 6, 2), (7, .if_icmp .ge 26, 3), (10, .iload_n 2, 1), (11, .aload_n 0, 1), (12, .iload_n 1, 1), (13, .iload_n 3, 1), (14, .invokevirtual 131, 3), (17, .ifCond .eq 7, 3), (20, .iconst 1, 1), (21, .goto 4, 3), (24, .iconst 0, 1), (25, .iadd, 1), (26, .istore_n 2, 1), (27, .iinc 3 1, 3), (30, .goto (-26), 3), (33, .iload_n 2, 1), (34, .ireturn, 1)]]
def tb_c120 : List (List (Nat × ClassFile.Instr × Nat)) := [[(0, .aload_n 0, 1), (1, .iload_n 1, 1), (2, .iload_n 2, 1), (3, .invokevirtual 124, 3), (6, .istore_n 3, 1), (7, .iconst 0, 1), (8, .istore 4, 2), (10, .iload 4, 2), (12, .iload_n 2, 1), (13, .if_icmp .ge 40, 3), (16, .iload_n 3, 1), (17, .ifCond .eq 28, 3), (20, .aload_n 0, 1), (21, .iload_n 1, 1), (22, .iload 4, 2), (24, .invokevirtual 124, 3), (27, .ifCond .eq 14, 3), (30, .aload_n 0, 1), (31, .iload_n 1, 1), (32, .iload_n 2, 1), (33, .iload 4, 2), (35, .invokevirtual 128, 3), (38, .ifCond .ne 7, 3), (41, .iconst 1, 1), (42, .goto 4, 3), (45, .iconst 0, 1), (46, .istore_n 3, 1), (47, .iinc 4 1, 3), (50, .goto (-40), 3), (53, .iconst 0, 1), (54, .istore 4, 2), (56, .iload 4, 2), (58, .iconst 3, 1), (59, .if_icmp .ge 58, 3), (62, .aload_n 0, 1), (63, .getfield 80, 3)], [(66, .iload 4, 2), (68, .aload_n 0, 1), (69, .getfield 13, 3), (72, .iconst 3, 1), (73, .iload_n 1, 1), (74, .imul, 1), (75, .iload_n 2, 1), (76, .iload 4, 2), (78, .invokestatic 120, 3), (81, .iadd, 1), (82, .iaload, 1), (83, .iastore, 1), (84, .iload_n 3, 1), (85, .ifCond .eq 24, 3), (88, .aload_n 0, 1), (89, .getfield 80, 3), (92, .iload 4, 2), (94, .iaload, 1), (95, .aload_n 0, 1), (96, .getfield 7, 3), (99, .iload 4, 2), (101, .iaload, 1), (102, .if_icmp .gt 7, 3), (105, .iconst 1, 1), (106, .goto 4, 3), (109, .iconst 0, 1), (110, .istore_n 3, 1), (111, .iinc 4 1, 3), (114, .goto (-58), 3), (117, .iload_n 3, 1), (118, .ireturn, 1)]]
def tb_c121 : List (List (Nat × ClassFile.Instr × Nat)) := [[(0, .iload_n 2, 1), (1, .ifCond .eq 33, 3), (4, .iload_n 2, 1), (5, .iconst 1, 1), (6, .if_icmp .ne 18, 3), (9, .aload_n 0, 1), (10, .getfield 19, 3), (13, .iload_n 1, 1), (14, .iaload, 1), (15, .iconst 1, 1), (16, .iand, 1), (17, .iconst 1, 1), (18, .if_icmp .ne 20, 3), (21, .goto 13, 3), (24, .aload_n 0, 1), (25, .getfield 19, 3), (28, .iload_n 1, 1), (29, .iaload, 1), (30, .iconst 1, 1), (31, .if_icmp .le 7, 3), (34, .iconst 1, 1), (35, .goto 4, 3), (38, .iconst 0, 1), (39, .ireturn, 1)]]
def tb_c122 : List (List (Nat × ClassFile.Instr × Nat)) := [[(0, .iconst 1, 1), (1, .istore 4, 2), (3, .iconst 0, 1), (4, .istore 5, 2), (6, .iload 5, 2), (8, .iconst 3, 1), (9, .if_icmp .ge 54, 3), (12, .iload 4, 2), (14, .ifCond .eq 40, 3), (17, .aload_n 0, 1), (18, .getfield 13, 3), (21, .iconst 3, 1), (22, .iload_n 1, 1), (23, .imul, 1), (24, .iload_n 2, 1), (25, .iload 5, 2), (27, .invokestatic 120, 3), (30, .iadd, 1), (31, .iaload, 1), (32, .aload_n 0, 1), (33, .getfield 13, 3), (36, .iconst 3, 1), (37, .iload_n 1, 1), (38, .imul, 1), (39, .iload_n 3, 1), (40, .iload 5, 2), (42, .invokestatic 120, 3), (45, .iadd, 1), (46, .iaload, 1), (47, .if_icmp .ne 7, 3), (50, .iconst 1, 1), (51, .goto 4, 3), (54, .iconst 0, 1), (55, .istore 4, 2), (57, .iinc 5 1, 3), (60, .goto (-54), 3), (63, .iload 4, 2)], [(65, .ireturn, 1)]]
def tb_c123 : List (List (Nat × ClassFile.Instr × Nat)) := [[(0, .iload_n 0, 1), (1, .tableswitch 78 0 4 #[35, 37, 41, 54, 66], 35), (36, .iload_n 1, 1), (37, .ireturn, 1), (38, .iconst 2, 1), (39, .iload_n 1, 1), (40, .isub, 1), (41, .ireturn, 1), (42, .iload_n 1, 1), (43, .iconst 2, 1), (44, .if_icmp .ne 7, 3), (47, .iconst 2, 1), (48, .goto 6, 3), (51, .iconst 1, 1), (52, .iload_n 1, 1), (53, .isub, 1), (54, .ireturn, 1), (55, .iload_n 1, 1), (56, .ifCond .ne 7, 3), (59, .iconst 2, 1), (60, .goto 6, 3), (63, .iload_n 1, 1)], [(64, .iconst 1, 1), (65, .isub, 1), (66, .ireturn, 1), (67, .iload_n 1, 1), (68, .ifCond .ne 7, 3), (71, .iconst 0, 1), (72, .goto 6, 3), (75, .iconst 3, 1), (76, .iload_n 1, 1), (77, .isub, 1), (78, .ireturn, 1), (79, .iload_n 1, 1), (80, .iconst 2, 1), (81, .if_icmp .ne 7, 3), (84, .iconst 0, 1), (85, .goto 6, 3), (88, .iload_n 1, 1), (89, .iconst 1, 1), (90, .iadd, 1), (91, .ireturn, 1)]]
def tb_c124 : List (List (Nat × ClassFile.Instr × Nat)) := [[(0, .aload_n 0, 1), (1, .iconst 0, 1), (2, .putfield 87, 3), (5, .iconst 0, 1), (6, .istore_n 1, 1), (7, .iconst 0, 1), (8, .istore_n 2, 1), (9, .iload_n 2, 1), (10, .aload_n 0, 1), (11, .getfield 91, 3), (14, .if_icmp .ge 29, 3), (17, .iload_n 1, 1), (18, .aload_n 0, 1), (19, .iload_n 2, 1), (20, .invokevirtual 134, 3), (23, .ifCond .le 11, 3), (26, .aload_n 0, 1), (27, .iload_n 2, 1), (28, .invokevirtual 137, 3), (31, .goto 4, 3), (34, .iconst 0, 1), (35, .iadd, 1), (36, .istore_n 1, 1), (37, .iinc 2 1, 3), (40, .goto (-31), 3), (43, .aload_n 0, 1), (44, .getfield 7, 3), (47, .iconst 0, 1), (48, .iaload, 1), (49, .aload_n 0, 1), (50, .getfield 7, 3), (53, .iconst 1, 1), (54, .iaload, 1), (55, .imul, 1), (56, .aload_n 0, 1), (57, .getfield 7, 3), (60, .iconst 2, 1), (61, .iaload, 1), (62, .imul, 1), (63, .istore_n 2, 1)], [(64, .iload_n 1, 1), (65, .iload_n 2, 1), (66, .if_icmp .ge 7, 3), (69, .iload_n 1, 1), (70, .goto 4, 3), (73, .iload_n 2, 1), (74, .ireturn, 1)]]
def tb_c125 : List (List (Nat × ClassFile.Instr × Nat)) := [[(0, .aload_n 0, 1), (1, .getfield 13, 3), (4, .iconst 3, 1), (5, .iload_n 1, 1), (6, .imul, 1), (7, .iaload, 1), (8, .aload_n 0, 1), (9, .getfield 13, 3), (12, .iconst 3, 1), (13, .iload_n 1, 1), (14, .imul, 1), (15, .iconst 1, 1), (16, .iadd, 1), (17, .iaload, 1), (18, .imul, 1), (19, .aload_n 0, 1), (20, .getfield 13, 3), (23, .iconst 3, 1), (24, .iload_n 1, 1), (25, .imul, 1), (26, .iconst 2, 1), (27, .iadd, 1), (28, .iaload, 1), (29, .imul, 1), (30, .ireturn, 1)]]
def tb_c126 : List (List (Nat × ClassFile.Instr × Nat)) := [[(0, .aload_n 0, 1), (1, .iload_n 1, 1), (2, .iconst 1, 1), (3, .sipush 1000, 3), (6, .invokestatic 94, 3), (9, .ifCond .eq 7, 3), (12, .iconst 0, 1), (13, .goto 4, 3), (16, .iconst 1, 1), (17, .putfield 87, 3), (20, .aload_n 0, 1), (21, .getfield 87, 3), (24, .ifCond .le 5, 3), (27, .iconst 0, 1), (28, .ireturn, 1), (29, .aload_n 0, 1), (30, .invokevirtual 113, 3), (33, .aload_n 0, 1), (34, .iconst 1, 1), (35, .putfield 98, 3), (38, .aload_n 0, 1), (39, .iconst 0, 1), (40, .putfield 163, 3), (43, .aload_n 0, 1), (44, .iconst 0, 1), (45, .putfield 166, 3), (48, .aload_n 0, 1), (49, .iconst 0, 1), (50, .putfield 140, 3), (53, .iconst 0, 1), (54, .istore_n 2, 1), (55, .iload_n 2, 1), (56, .bipush 8, 2), (58, .if_icmp .ge 16, 3), (61, .aload_n 0, 1), (62, .getfield 43, 3)], [(65, .iload_n 2, 1), (66, .iconst 0, 1), (67, .bastore, 1), (68, .iinc 2 1, 3), (71, .goto (-16), 3), (74, .aload_n 0, 1), (75, .invokevirtual 169, 3), (78, .iconst 1, 1), (79, .istore_n 2, 1), (80, .iload_n 2, 1), (81, .ifCond .eq 117, 3), (84, .aload_n 0, 1), (85, .invokevirtual 172, 3), (88, .ifCond .eq 91, 3), (91, .aload_n 0, 1), (92, .getfield 166, 3), (95, .iload_n 1, 1), (96, .if_icmp .ne 13, 3), (99, .aload_n 0, 1), (100, .iconst 1, 1), (101, .putfield 163, 3), (104, .iconst 0, 1), (105, .istore_n 2, 1), (106, .goto (-26), 3), (109, .aload_n 0, 1), (110, .dup, 1), (111, .getfield 166, 3), (114, .iconst 1, 1), (115, .iadd, 1), (116, .putfield 166, 3), (119, .aload_n 0, 1), (120, .getfield 53, 3), (123, .aload_n 0, 1), (124, .getfield 140, 3), (127, .iaload, 1)], [(128, .iconst 1, 1), (129, .isub, 1), (130, .istore_n 3, 1), (131, .aload_n 0, 1), (132, .aload_n 0, 1), (133, .getfield 47, 3), (136, .aload_n 0, 1), (137, .getfield 140, 3), (140, .iaload, 1), (141, .aload_n 0, 1), (142, .getfield 50, 3), (145, .aload_n 0, 1), (146, .getfield 140, 3), (149, .iaload, 1), (150, .aload_n 0, 1), (151, .iload_n 3, 1), (152, .invokevirtual 150, 3), (155, .aload_n 0, 1), (156, .iload_n 3, 1), (157, .invokevirtual 153, 3), (160, .aload_n 0, 1), (161, .iload_n 3, 1), (162, .invokevirtual 156, 3), (165, .invokevirtual 176, 3), (168, .aload_n 0, 1), (169, .invokevirtual 180, 3), (172, .aload_n 0, 1), (173, .invokevirtual 169, 3), (176, .goto (-96), 3), (179, .aload_n 0, 1), (180, .getfield 140, 3), (183, .ifCond .ne 8, 3), (186, .iconst 0, 1), (187, .istore_n 2, 1), (188, .goto (-108), 3), (191, .aload_n 0, 1)], [(192, .invokevirtual 183, 3), (195, .goto (-115), 3), (198, .aload_n 0, 1), (199, .getfield 105, 3), (202, .l2i, 1), (203, .ireturn, 1)]]
def tb_c127 : List (List (Nat × ClassFile.Instr × Nat)) := [[(0, .iconst 0, 1), (1, .istore_n 1, 1), (2, .iload_n 1, 1), (3, .iconst 3, 1), (4, .if_icmp .ge 182, 3), (7, .bipush 27, 2), (9, .aload_n 0, 1), (10, .getfield 140, 3), (13, .imul, 1), (14, .bipush 9, 2), (16, .iload_n 1, 1), (17, .imul, 1), (18, .iadd, 1), (19, .istore_n 2, 1), (20, .aload_n 0, 1), (21, .getfield 56, 3), (24, .iload_n 2, 1), (25, .iconst 0, 1), (26, .iastore, 1), (27, .iconst 1, 1), (28, .istore_n 3, 1), (29, .iconst 0, 1), (30, .istore 4, 2), (32, .iload 4, 2), (34, .aload_n 0, 1), (35, .getfield 140, 3), (38, .if_icmp .ge 128, 3), (41, .aload_n 0, 1), (42, .getfield 37, 3), (45, .iconst 3, 1), (46, .iload 4, 2), (48, .imul, 1), (49, .iload_n 1, 1), (50, .iadd, 1), (51, .iaload, 1), (52, .aload_n 0, 1), (53, .getfield 34, 3), (56, .iconst 3, 1), (57, .iload 4, 2), (59, .imul, 1), (60, .iload_n 1, 1), (61, .iadd, 1), (62, .iaload, 1), (63, .iadd, 1)], [(64, .istore 5, 2), (66, .iload_n 3, 1), (67, .istore 6, 2), (69, .aload_n 0, 1), (70, .getfield 56, 3), (73, .iload_n 2, 1), (74, .iload 6, 2), (76, .iadd, 1), (77, .iconst 1, 1), (78, .isub, 1), (79, .iaload, 1), (80, .iload 5, 2), (82, .if_icmp .le 9, 3), (85, .iinc 6 (-1), 3), (88, .goto (-19), 3), (91, .aload_n 0, 1), (92, .getfield 56, 3), (95, .iload_n 2, 1), (96, .iload 6, 2), (98, .iadd, 1), (99, .iconst 1, 1), (100, .isub, 1), (101, .iaload, 1), (102, .iload 5, 2), (104, .if_icmp .ne 6, 3), (107, .goto 53, 3), (110, .iload_n 3, 1), (111, .istore 7, 2), (113, .iload 7, 2), (115, .iload 6, 2), (117, .if_icmp .le 29, 3), (120, .aload_n 0, 1), (121, .getfield 56, 3), (124, .iload_n 2, 1), (125, .iload 7, 2), (127, .iadd, 1)], [(128, .aload_n 0, 1), (129, .getfield 56, 3), (132, .iload_n 2, 1), (133, .iload 7, 2), (135, .iadd, 1), (136, .iconst 1, 1), (137, .isub, 1), (138, .iaload, 1), (139, .iastore, 1), (140, .iinc 7 (-1), 3), (143, .goto (-30), 3), (146, .aload_n 0, 1), (147, .getfield 56, 3), (150, .iload_n 2, 1), (151, .iload 6, 2), (153, .iadd, 1), (154, .iload 5, 2), (156, .iastore, 1), (157, .iinc 3 1, 3), (160, .iinc 4 1, 3), (163, .goto (-131), 3), (166, .aload_n 0, 1), (167, .getfield 59, 3), (170, .iconst 3, 1), (171, .aload_n 0, 1), (172, .getfield 140, 3), (175, .imul, 1), (176, .iload_n 1, 1), (177, .iadd, 1), (178, .iload_n 3, 1), (179, .iastore, 1), (180, .iinc 1 1, 3), (183, .goto (-181), 3), (186, .aload_n 0, 1), (187, .getfield 47, 3), (190, .aload_n 0, 1), (191, .getfield 140, 3)], [(194, .iconst 0, 1), (195, .iastore, 1), (196, .aload_n 0, 1), (197, .getfield 50, 3), (200, .aload_n 0, 1), (201, .getfield 140, 3), (204, .iconst 0, 1), (205, .iastore, 1), (206, .aload_n 0, 1), (207, .getfield 53, 3), (210, .aload_n 0, 1), (211, .getfield 140, 3), (214, .iconst 0, 1), (215, .iastore, 1), (216, .return_, 1)]]
def tb_c128 : List (List (Nat × ClassFile.Instr × Nat)) := [[(0, .iconst 3, 1), (1, .aload_n 0, 1), (2, .getfield 140, 3), (5, .imul, 1), (6, .istore_n 1, 1), (7, .aload_n 0, 1), (8, .getfield 59, 3), (11, .iload_n 1, 1), (12, .iaload, 1), (13, .aload_n 0, 1), (14, .getfield 59, 3), (17, .iload_n 1, 1), (18, .iconst 1, 1), (19, .iadd, 1), (20, .iaload, 1), (21, .imul, 1), (22, .aload_n 0, 1), (23, .getfield 59, 3), (26, .iload_n 1, 1), (27, .iconst 2, 1), (28, .iadd, 1), (29, .iaload, 1), (30, .imul, 1), (31, .istore_n 2, 1), (32, .iconst (-1), 1), (33, .istore_n 3, 1), (34, .iconst 0, 1), (35, .istore 4, 2), (37, .aload_n 0, 1), (38, .getfield 47, 3), (41, .aload_n 0, 1), (42, .getfield 140, 3), (45, .iaload, 1), (46, .aload_n 0, 1), (47, .getfield 91, 3), (50, .if_icmp .ge 240, 3), (53, .aload_n 0, 1), (54, .getfield 47, 3), (57, .aload_n 0, 1), (58, .getfield 140, 3), (61, .iaload, 1), (62, .istore 5, 2)], [(64, .iload_n 3, 1), (65, .bipush 6, 2), (67, .iload 5, 2), (69, .imul, 1), (70, .aload_n 0, 1), (71, .getfield 50, 3), (74, .aload_n 0, 1), (75, .getfield 140, 3), (78, .iaload, 1), (79, .iadd, 1), (80, .if_icmp .eq 50, 3), (83, .aload_n 0, 1), (84, .getfield 50, 3), (87, .aload_n 0, 1), (88, .getfield 140, 3), (91, .iaload, 1), (92, .bipush 6, 2), (94, .if_icmp .ge 36, 3), (97, .bipush 6, 2), (99, .iload 5, 2), (101, .imul, 1), (102, .aload_n 0, 1), (103, .getfield 50, 3), (106, .aload_n 0, 1), (107, .getfield 140, 3), (110, .iaload, 1), (111, .iadd, 1), (112, .istore_n 3, 1), (113, .aload_n 0, 1), (114, .iload 5, 2), (116, .aload_n 0, 1), (117, .getfield 50, 3), (120, .aload_n 0, 1), (121, .getfield 140, 3), (124, .iaload, 1), (125, .invokevirtual 131, 3)], [(128, .istore 4, 2), (130, .aload_n 0, 1), (131, .getfield 43, 3), (134, .iload 5, 2), (136, .baload, 1), (137, .ifCond .ne 17, 3), (140, .aload_n 0, 1), (141, .getfield 50, 3), (144, .aload_n 0, 1), (145, .getfield 140, 3), (148, .iaload, 1), (149, .bipush 6, 2), (151, .if_icmp .ne 39, 3), (154, .aload_n 0, 1), (155, .getfield 47, 3), (158, .aload_n 0, 1), (159, .getfield 140, 3), (162, .dup2, 1), (163, .iaload, 1), (164, .iconst 1, 1), (165, .iadd, 1), (166, .iastore, 1), (167, .aload_n 0, 1), (168, .getfield 50, 3), (171, .aload_n 0, 1), (172, .getfield 140, 3), (175, .iconst 0, 1), (176, .iastore, 1), (177, .aload_n 0, 1), (178, .getfield 53, 3), (181, .aload_n 0, 1), (182, .getfield 140, 3), (185, .iconst 0, 1), (186, .iastore, 1), (187, .goto 100, 3), (190, .aload_n 0, 1), (191, .getfield 53, 3)], [(194, .aload_n 0, 1), (195, .getfield 140, 3), (198, .iaload, 1), (199, .iload_n 2, 1), (200, .if_icmp .eq 8, 3), (203, .iload 4, 2), (205, .ifCond .ne 29, 3), (208, .aload_n 0, 1), (209, .getfield 50, 3), (212, .aload_n 0, 1), (213, .getfield 140, 3), (216, .dup2, 1), (217, .iaload, 1), (218, .iconst 1, 1), (219, .iadd, 1), (220, .iastore, 1), (221, .aload_n 0, 1), (222, .getfield 53, 3), (225, .aload_n 0, 1), (226, .getfield 140, 3), (229, .iconst 0, 1), (230, .iastore, 1), (231, .goto 56, 3), (234, .aload_n 0, 1), (235, .getfield 53, 3), (238, .aload_n 0, 1), (239, .getfield 140, 3), (242, .iaload, 1), (243, .istore 6, 2), (245, .aload_n 0, 1), (246, .getfield 53, 3), (249, .aload_n 0, 1), (250, .getfield 140, 3), (253, .dup2, 1), (254, .iaload, 1), (255, .iconst 1, 1)], [(256, .iadd, 1), (257, .iastore, 1), (258, .aload_n 0, 1), (259, .iload 5, 2), (261, .aload_n 0, 1), (262, .iload 6, 2), (264, .invokevirtual 150, 3), (267, .aload_n 0, 1), (268, .iload 6, 2), (270, .invokevirtual 153, 3), (273, .aload_n 0, 1), (274, .iload 6, 2), (276, .invokevirtual 156, 3), (279, .invokevirtual 159, 3), (282, .ifCond .eq 5, 3), (285, .iconst 1, 1), (286, .ireturn, 1), (287, .goto (-250), 3), (290, .iconst 0, 1), (291, .ireturn, 1)]]
def tb_c129 : List (List (Nat × ClassFile.Instr × Nat)) := [[(0, .aload_n 0, 1), (1, .getfield 56, 3), (4, .bipush 27, 2), (6, .aload_n 0, 1), (7, .getfield 140, 3), (10, .imul, 1), (11, .iload_n 1, 1), (12, .aload_n 0, 1), (13, .getfield 59, 3), (16, .iconst 3, 1), (17, .aload_n 0, 1), (18, .getfield 140, 3), (21, .imul, 1), (22, .iaload, 1), (23, .irem, 1), (24, .iadd, 1), (25, .iaload, 1), (26, .ireturn, 1)]]
def tb_c130 : List (List (Nat × ClassFile.Instr × Nat)) := [[(0, .aload_n 0, 1), (1, .getfield 56, 3), (4, .bipush 27, 2), (6, .aload_n 0, 1), (7, .getfield 140, 3), (10, .imul, 1), (11, .bipush 9, 2), (13, .iadd, 1), (14, .iload_n 1, 1), (15, .aload_n 0, 1), (16, .getfield 59, 3), (19, .iconst 3, 1), (20, .aload_n 0, 1), (21, .getfield 140, 3), (24, .imul, 1), (25, .iaload, 1), (26, .idiv, 1), (27, .aload_n 0, 1), (28, .getfield 59, 3), (31, .iconst 3, 1), (32, .aload_n 0, 1), (33, .getfield 140, 3), (36, .imul, 1), (37, .iconst 2, 1), (38, .iadd, 1), (39, .iaload, 1), (40, .idiv, 1), (41, .iadd, 1), (42, .iaload, 1), (43, .ireturn, 1)]]
def tb_c131 : List (List (Nat × ClassFile.Instr × Nat)) := [[(0, .aload_n 0, 1), (1, .getfield 56, 3), (4, .bipush 27, 2), (6, .aload_n 0, 1), (7, .getfield 140, 3), (10, .imul, 1), (11, .bipush 18, 2), (13, .iadd, 1), (14, .iload_n 1, 1), (15, .aload_n 0, 1), (16, .getfield 59, 3), (19, .iconst 3, 1), (20, .aload_n 0, 1), (21, .getfield 140, 3), (24, .imul, 1), (25, .iaload, 1), (26, .idiv, 1), (27, .aload_n 0, 1), (28, .getfield 59, 3), (31, .iconst 3, 1), (32, .aload_n 0, 1), (33, .getfield 140, 3), (36, .imul, 1), (37, .iconst 2, 1), (38, .iadd, 1), (39, .iaload, 1), (40, .irem, 1), (41, .iadd, 1), (42, .iaload, 1), (43, .ireturn, 1)]]
def tb_c132 : List (List (Nat × ClassFile.Instr × Nat)) := [[(0, .iload_n 2, 1), (1, .aload_n 0, 1), (2, .getfield 80, 3), (5, .iconst 0, 1), (6, .iaload, 1), (7, .iadd, 1), (8, .aload_n 0, 1), (9, .getfield 7, 3), (12, .iconst 0, 1), (13, .iaload, 1), (14, .if_icmp .gt 49, 3), (17, .iload_n 3, 1), (18, .aload_n 0, 1), (19, .getfield 80, 3), (22, .iconst 1, 1), (23, .iaload, 1), (24, .iadd, 1), (25, .aload_n 0, 1), (26, .getfield 7, 3), (29, .iconst 1, 1), (30, .iaload, 1), (31, .if_icmp .gt 32, 3), (34, .iload 4, 2), (36, .aload_n 0, 1), (37, .getfield 80, 3), (40, .iconst 2, 1), (41, .iaload, 1), (42, .iadd, 1), (43, .aload_n 0, 1), (44, .getfield 7, 3), (47, .iconst 2, 1), (48, .iaload, 1), (49, .if_icmp .gt 14, 3), (52, .aload_n 0, 1), (53, .iload_n 2, 1), (54, .iload_n 3, 1), (55, .iload 4, 2), (57, .invokevirtual 143, 3), (60, .ifCond .ne 5, 3), (63, .iconst 0, 1)], [(64, .ireturn, 1), (65, .iconst 0, 1), (66, .istore 5, 2), (68, .iconst 0, 1), (69, .istore 6, 2), (71, .iload 6, 2), (73, .aload_n 0, 1), (74, .getfield 140, 3), (77, .if_icmp .ge 302, 3), (80, .aload_n 0, 1), (81, .getfield 28, 3), (84, .iload 6, 2), (86, .iaload, 1), (87, .istore 7, 2), (89, .aload_n 0, 1), (90, .iload 6, 2), (92, .iconst 0, 1), (93, .iload_n 2, 1), (94, .aload_n 0, 1), (95, .getfield 80, 3), (98, .iconst 0, 1), (99, .iaload, 1), (100, .invokevirtual 146, 3), (103, .istore 8, 2), (105, .aload_n 0, 1), (106, .iload 6, 2), (108, .iconst 1, 1), (109, .iload_n 3, 1), (110, .aload_n 0, 1), (111, .getfield 80, 3), (114, .iconst 1, 1), (115, .iaload, 1), (116, .invokevirtual 146, 3), (119, .istore 9, 2), (121, .aload_n 0, 1), (122, .iload 6, 2), (124, .iconst 2, 1), (125, .iload 4, 2), (127, .aload_n 0, 1)], [(128, .getfield 80, 3), (131, .iconst 2, 1), (132, .iaload, 1), (133, .invokevirtual 146, 3), (136, .istore 10, 2), (138, .iload 8, 2), (140, .ifCond .le 15, 3), (143, .iload 9, 2), (145, .ifCond .le 10, 3), (148, .iload 10, 2), (150, .ifCond .le 5, 3), (153, .iconst 0, 1), (154, .ireturn, 1), (155, .aload_n 0, 1), (156, .getfield 37, 3), (159, .iconst 3, 1), (160, .iload 6, 2), (162, .imul, 1), (163, .iconst 1, 1), (164, .iadd, 1), (165, .iaload, 1), (166, .aload_n 0, 1), (167, .getfield 34, 3), (170, .iconst 3, 1), (171, .iload 6, 2), (173, .imul, 1), (174, .iconst 1, 1), (175, .iadd, 1), (176, .iaload, 1), (177, .iadd, 1), (178, .istore 11, 2), (180, .iload 5, 2), (182, .iload 11, 2), (184, .iload_n 3, 1), (185, .if_icmp .ne 11, 3), (188, .iload 8, 2), (190, .iload 10, 2)], [(192, .imul, 1), (193, .goto 4, 3), (196, .iconst 0, 1), (197, .iadd, 1), (198, .istore 5, 2), (200, .iload_n 3, 1), (201, .iload 11, 2), (203, .if_icmp .lt 39, 3), (206, .iload 8, 2), (208, .ifCond .le 34, 3), (211, .iload 10, 2), (213, .ifCond .le 29, 3), (216, .aload_n 0, 1), (217, .getfield 40, 3), (220, .iload 6, 2), (222, .iaload, 1), (223, .aload_n 0, 1), (224, .getfield 16, 3), (227, .iload_n 1, 1), (228, .iaload, 1), (229, .iadd, 1), (230, .aload_n 0, 1), (231, .getfield 25, 3), (234, .iload 7, 2), (236, .iaload, 1), (237, .if_icmp .le 5, 3), (240, .iconst 0, 1), (241, .ireturn, 1), (242, .iload 8, 2), (244, .ifCond .le 12, 3), (247, .iload 9, 2), (249, .ifCond .le 7, 3), (252, .iconst 1, 1), (253, .goto 4, 3)], [(256, .iconst 0, 1), (257, .istore 12, 2), (259, .iload 4, 2), (261, .aload_n 0, 1), (262, .getfield 37, 3), (265, .iconst 3, 1), (266, .iload 6, 2), (268, .imul, 1), (269, .iconst 2, 1), (270, .iadd, 1), (271, .iaload, 1), (272, .aload_n 0, 1), (273, .getfield 34, 3), (276, .iconst 3, 1), (277, .iload 6, 2), (279, .imul, 1), (280, .iconst 2, 1), (281, .iadd, 1), (282, .iaload, 1), (283, .iadd, 1), (284, .if_icmp .lt 7, 3), (287, .iconst 1, 1), (288, .goto 4, 3), (291, .iconst 0, 1), (292, .istore 13, 2), (294, .aload_n 0, 1), (295, .getfield 37, 3), (298, .iconst 3, 1), (299, .iload 6, 2), (301, .imul, 1), (302, .iconst 2, 1), (303, .iadd, 1), (304, .iaload, 1), (305, .iload 4, 2), (307, .aload_n 0, 1), (308, .getfield 80, 3), (311, .iconst 2, 1), (312, .iaload, 1), (313, .iadd, 1), (314, .if_icmp .lt 7, 3), (317, .iconst 1, 1), (318, .goto 4, 3)], [(321, .iconst 0, 1), (322, .istore 14, 2), (324, .iload 12, 2), (326, .ifCond .eq 47, 3), (329, .iload 13, 2), (331, .ifCond .eq 19, 3), (334, .aload_n 0, 1), (335, .getfield 22, 3), (338, .iload_n 1, 1), (339, .iaload, 1), (340, .aload_n 0, 1), (341, .getfield 22, 3), (344, .iload 7, 2), (346, .iaload, 1), (347, .if_icmp .gt 24, 3), (350, .iload 14, 2), (352, .ifCond .eq 21, 3), (355, .aload_n 0, 1), (356, .getfield 22, 3), (359, .iload 7, 2), (361, .iaload, 1), (362, .aload_n 0, 1), (363, .getfield 22, 3), (366, .iload_n 1, 1), (367, .iaload, 1), (368, .if_icmp .le 5, 3), (371, .iconst 0, 1), (372, .ireturn, 1), (373, .iinc 6 1, 3), (376, .goto (-305), 3), (379, .iload_n 3, 1), (380, .ifCond .eq 21, 3), (383, .iload 5, 2)], [(385, .aload_n 0, 1), (386, .getfield 80, 3), (389, .iconst 0, 1), (390, .iaload, 1), (391, .aload_n 0, 1), (392, .getfield 80, 3), (395, .iconst 2, 1), (396, .iaload, 1), (397, .imul, 1), (398, .if_icmp .ne 7, 3), (401, .iconst 1, 1), (402, .goto 4, 3), (405, .iconst 0, 1), (406, .ireturn, 1)]]
def tb_c133 : List (List (Nat × ClassFile.Instr × Nat)) := [[(0, .aload_n 0, 1), (1, .getfield 140, 3), (4, .ifCond .ne 5, 3), (7, .iconst 1, 1), (8, .ireturn, 1), (9, .iconst 3, 1), (10, .aload_n 0, 1), (11, .getfield 140, 3), (14, .imul, 1), (15, .iconst 3, 1), (16, .isub, 1), (17, .istore 4, 2), (19, .iload_n 2, 1), (20, .aload_n 0, 1), (21, .getfield 37, 3), (24, .iload 4, 2), (26, .iconst 1, 1), (27, .iadd, 1), (28, .iaload, 1), (29, .if_icmp .eq 22, 3), (32, .iload_n 2, 1), (33, .aload_n 0, 1), (34, .getfield 37, 3), (37, .iload 4, 2), (39, .iconst 1, 1), (40, .iadd, 1), (41, .iaload, 1), (42, .if_icmp .le 7, 3), (45, .iconst 1, 1), (46, .goto 4, 3), (49, .iconst 0, 1), (50, .ireturn, 1), (51, .iload_n 3, 1), (52, .aload_n 0, 1), (53, .getfield 37, 3), (56, .iload 4, 2), (58, .iconst 2, 1), (59, .iadd, 1), (60, .iaload, 1), (61, .if_icmp .eq 24, 3)], [(64, .iload_n 3, 1), (65, .aload_n 0, 1), (66, .getfield 37, 3), (69, .iload 4, 2), (71, .iconst 2, 1), (72, .iadd, 1), (73, .iaload, 1), (74, .if_icmp .le 7, 3), (77, .iconst 1, 1), (78, .goto 23, 3), (81, .iconst 0, 1), (82, .goto 19, 3), (85, .iload_n 1, 1), (86, .aload_n 0, 1), (87, .getfield 37, 3), (90, .iload 4, 2), (92, .iaload, 1), (93, .if_icmp .le 7, 3), (96, .iconst 1, 1), (97, .goto 4, 3), (100, .iconst 0, 1), (101, .ireturn, 1)]]
def tb_c134 : List (List (Nat × ClassFile.Instr × Nat)) := [[(0, .aload_n 0, 1), (1, .getfield 37, 3), (4, .iconst 3, 1), (5, .iload_n 1, 1), (6, .imul, 1), (7, .iload_n 2, 1), (8, .iadd, 1), (9, .iaload, 1), (10, .iload_n 3, 1), (11, .if_icmp .le 16, 3), (14, .aload_n 0, 1), (15, .getfield 37, 3), (18, .iconst 3, 1), (19, .iload_n 1, 1), (20, .imul, 1), (21, .iload_n 2, 1), (22, .iadd, 1), (23, .iaload, 1), (24, .goto 4, 3), (27, .iload_n 3, 1), (28, .istore 5, 2), (30, .aload_n 0, 1), (31, .getfield 37, 3), (34, .iconst 3, 1), (35, .iload_n 1, 1), (36, .imul, 1), (37, .iload_n 2, 1), (38, .iadd, 1), (39, .iaload, 1), (40, .aload_n 0, 1), (41, .getfield 34, 3), (44, .iconst 3, 1), (45, .iload_n 1, 1), (46, .imul, 1), (47, .iload_n 2, 1), (48, .iadd, 1), (49, .iaload, 1), (50, .iadd, 1), (51, .istore 6, 2), (53, .iload_n 3, 1), (54, .iload 4, 2), (56, .iadd, 1), (57, .istore 7, 2), (59, .iload 6, 2), (61, .iload 7, 2), (63, .if_icmp .ge 8, 3)], [(66, .iload 6, 2), (68, .goto 5, 3), (71, .iload 7, 2), (73, .istore 8, 2), (75, .iload 8, 2), (77, .iload 5, 2), (79, .if_icmp .le 11, 3), (82, .iload 8, 2), (84, .iload 5, 2), (86, .isub, 1), (87, .goto 4, 3), (90, .iconst 0, 1), (91, .ireturn, 1)]]
def tb_c135 : List (List (Nat × ClassFile.Instr × Nat)) := [[(0, .iconst 0, 1), (1, .istore 6, 2), (3, .iload 6, 2), (5, .aload_n 0, 1), (6, .getfield 140, 3), (9, .if_icmp .ge 104, 3), (12, .aload_n 0, 1), (13, .iload 6, 2), (15, .iconst 0, 1), (16, .iload_n 3, 1), (17, .aload_n 0, 1), (18, .getfield 80, 3), (21, .iconst 0, 1), (22, .iaload, 1), (23, .invokevirtual 146, 3), (26, .ifCond .le 25, 3), (29, .aload_n 0, 1), (30, .iload 6, 2), (32, .iconst 2, 1), (33, .iload 5, 2), (35, .aload_n 0, 1), (36, .getfield 80, 3), (39, .iconst 2, 1), (40, .iaload, 1), (41, .invokevirtual 146, 3), (44, .ifCond .le 7, 3), (47, .iconst 1, 1), (48, .goto 4, 3), (51, .iconst 0, 1), (52, .istore 7, 2), (54, .aload_n 0, 1), (55, .getfield 40, 3), (58, .iload 6, 2), (60, .dup2, 1), (61, .iaload, 1), (62, .iload 7, 2)], [(64, .ifCond .eq 40, 3), (67, .iload 4, 2), (69, .aload_n 0, 1), (70, .getfield 37, 3), (73, .iconst 3, 1), (74, .iload 6, 2), (76, .imul, 1), (77, .iconst 1, 1), (78, .iadd, 1), (79, .iaload, 1), (80, .aload_n 0, 1), (81, .getfield 34, 3), (84, .iconst 3, 1), (85, .iload 6, 2), (87, .imul, 1), (88, .iconst 1, 1), (89, .iadd, 1), (90, .iaload, 1), (91, .iadd, 1), (92, .if_icmp .lt 12, 3), (95, .aload_n 0, 1), (96, .getfield 16, 3), (99, .iload_n 1, 1), (100, .iaload, 1), (101, .goto 4, 3), (104, .iconst 0, 1), (105, .iadd, 1), (106, .iastore, 1), (107, .iinc 6 1, 3), (110, .goto (-107), 3), (113, .aload_n 0, 1), (114, .getfield 28, 3), (117, .aload_n 0, 1), (118, .getfield 140, 3), (121, .iload_n 1, 1), (122, .iastore, 1), (123, .aload_n 0, 1), (124, .getfield 31, 3), (127, .aload_n 0, 1)], [(128, .getfield 140, 3), (131, .iload_n 2, 1), (132, .iastore, 1), (133, .aload_n 0, 1), (134, .getfield 40, 3), (137, .aload_n 0, 1), (138, .getfield 140, 3), (141, .iconst 0, 1), (142, .iastore, 1), (143, .aload_n 0, 1), (144, .getfield 43, 3), (147, .iload_n 1, 1), (148, .iconst 1, 1), (149, .bastore, 1), (150, .aload_n 0, 1), (151, .getfield 37, 3), (154, .iconst 3, 1), (155, .aload_n 0, 1), (156, .getfield 140, 3), (159, .imul, 1), (160, .iload_n 3, 1), (161, .iastore, 1), (162, .aload_n 0, 1), (163, .getfield 37, 3), (166, .iconst 3, 1), (167, .aload_n 0, 1), (168, .getfield 140, 3), (171, .imul, 1), (172, .iconst 1, 1), (173, .iadd, 1), (174, .iload 4, 2), (176, .iastore, 1), (177, .aload_n 0, 1), (178, .getfield 37, 3), (181, .iconst 3, 1), (182, .aload_n 0, 1), (183, .getfield 140, 3), (186, .imul, 1), (187, .iconst 2, 1), (188, .iadd, 1), (189, .iload 5, 2), (191, .iastore, 1)], [(192, .iconst 0, 1), (193, .istore 6, 2), (195, .iload 6, 2), (197, .iconst 3, 1), (198, .if_icmp .ge 30, 3), (201, .aload_n 0, 1), (202, .getfield 34, 3), (205, .iconst 3, 1), (206, .aload_n 0, 1), (207, .getfield 140, 3), (210, .imul, 1), (211, .iload 6, 2), (213, .iadd, 1), (214, .aload_n 0, 1), (215, .getfield 80, 3), (218, .iload 6, 2), (220, .iaload, 1), (221, .iastore, 1), (222, .iinc 6 1, 3), (225, .goto (-30), 3), (228, .aload_n 0, 1), (229, .dup, 1), (230, .getfield 140, 3), (233, .iconst 1, 1), (234, .iadd, 1), (235, .putfield 140, 3), (238, .return_, 1)]]
def tb_c136 : List (List (Nat × ClassFile.Instr × Nat)) := [[(0, .lconst 0, 1), (1, .lstore_n 1, 1), (2, .lconst 0, 1), (3, .lstore_n 3, 1), (4, .iconst 0, 1), (5, .istore 5, 2), (7, .iload 5, 2), (9, .aload_n 0, 1), (10, .getfield 140, 3), (13, .if_icmp .ge 67, 3), (16, .lload_n 1, 1), (17, .aload_n 0, 1), (18, .aload_n 0, 1), (19, .getfield 28, 3), (22, .iload 5, 2), (24, .iaload, 1), (25, .invokevirtual 137, 3), (28, .i2l, 1), (29, .ladd, 1), (30, .lstore_n 1, 1), (31, .lload_n 3, 1), (32, .aload_n 0, 1), (33, .getfield 16, 3), (36, .aload_n 0, 1), (37, .getfield 28, 3), (40, .iload 5, 2), (42, .iaload, 1), (43, .iaload, 1), (44, .i2l, 1), (45, .iconst 2, 1), (46, .aload_n 0, 1), (47, .getfield 37, 3), (50, .iconst 3, 1), (51, .iload 5, 2), (53, .imul, 1), (54, .iconst 1, 1), (55, .iadd, 1), (56, .iaload, 1), (57, .imul, 1), (58, .aload_n 0, 1), (59, .getfield 34, 3), (62, .iconst 3, 1), (63, .iload 5, 2)], [(65, .imul, 1), (66, .iconst 1, 1), (67, .iadd, 1), (68, .iaload, 1), (69, .iadd, 1), (70, .i2l, 1), (71, .lmul, 1), (72, .ladd, 1), (73, .lstore_n 3, 1), (74, .iinc 5 1, 3), (77, .goto (-70), 3), (80, .lload_n 1, 1), (81, .aload_n 0, 1), (82, .getfield 105, 3), (85, .lcmp, 1), (86, .ifCond .lt 21, 3), (89, .lload_n 1, 1), (90, .aload_n 0, 1), (91, .getfield 105, 3), (94, .lcmp, 1), (95, .ifCond .ne 13, 3), (98, .lload_n 3, 1), (99, .aload_n 0, 1), (100, .getfield 109, 3), (103, .lcmp, 1), (104, .ifCond .lt 4, 3), (107, .return_, 1), (108, .aload_n 0, 1), (109, .lload_n 1, 1), (110, .putfield 105, 3), (113, .aload_n 0, 1), (114, .lload_n 3, 1), (115, .putfield 109, 3), (118, .aload_n 0, 1), (119, .aload_n 0, 1), (120, .getfield 140, 3), (123, .putfield 102, 3), (126, .iconst 0, 1), (127, .istore 5, 2)], [(129, .iload 5, 2), (131, .aload_n 0, 1), (132, .getfield 140, 3), (135, .if_icmp .ge 51, 3), (138, .aload_n 0, 1), (139, .getfield 62, 3), (142, .iload 5, 2), (144, .aload_n 0, 1), (145, .getfield 28, 3), (148, .iload 5, 2), (150, .iaload, 1), (151, .iastore, 1), (152, .aload_n 0, 1), (153, .getfield 65, 3), (156, .iload 5, 2), (158, .aload_n 0, 1), (159, .getfield 31, 3), (162, .iload 5, 2), (164, .iaload, 1), (165, .iastore, 1), (166, .aload_n 0, 1), (167, .getfield 74, 3), (170, .iload 5, 2), (172, .aload_n 0, 1), (173, .getfield 40, 3), (176, .iload 5, 2), (178, .iaload, 1), (179, .iastore, 1), (180, .iinc 5 1, 3), (183, .goto (-54), 3), (186, .iconst 0, 1), (187, .istore 5, 2), (189, .iload 5, 2), (191, .iconst 3, 1)], [(192, .aload_n 0, 1), (193, .getfield 140, 3), (196, .imul, 1), (197, .if_icmp .ge 37, 3), (200, .aload_n 0, 1), (201, .getfield 68, 3), (204, .iload 5, 2), (206, .aload_n 0, 1), (207, .getfield 34, 3), (210, .iload 5, 2), (212, .iaload, 1), (213, .iastore, 1), (214, .aload_n 0, 1), (215, .getfield 71, 3), (218, .iload 5, 2), (220, .aload_n 0, 1), (221, .getfield 37, 3), (224, .iload 5, 2), (226, .iaload, 1), (227, .iastore, 1), (228, .iinc 5 1, 3), (231, .goto (-42), 3), (234, .return_, 1)]]
def tb_c137 : List (List (Nat × ClassFile.Instr × Nat)) := [[(0, .aload_n 0, 1), (1, .dup, 1), (2, .getfield 140, 3), (5, .iconst 1, 1), (6, .isub, 1), (7, .putfield 140, 3), (10, .aload_n 0, 1), (11, .getfield 28, 3), (14, .aload_n 0, 1), (15, .getfield 140, 3), (18, .iaload, 1), (19, .istore_n 1, 1), (20, .aload_n 0, 1), (21, .getfield 43, 3), (24, .iload_n 1, 1), (25, .iconst 0, 1), (26, .bastore, 1), (27, .iconst 0, 1), (28, .istore_n 2, 1), (29, .iload_n 2, 1), (30, .aload_n 0, 1), (31, .getfield 140, 3), (34, .if_icmp .ge 141, 3), (37, .aload_n 0, 1), (38, .iload_n 2, 1), (39, .iconst 0, 1), (40, .aload_n 0, 1), (41, .getfield 37, 3), (44, .iconst 3, 1), (45, .aload_n 0, 1), (46, .getfield 140, 3), (49, .imul, 1), (50, .iaload, 1), (51, .aload_n 0, 1), (52, .getfield 34, 3), (55, .iconst 3, 1), (56, .aload_n 0, 1), (57, .getfield 140, 3), (60, .imul, 1), (61, .iaload, 1), (62, .invokevirtual 146, 3)], [(65, .ifCond .le 42, 3), (68, .aload_n 0, 1), (69, .iload_n 2, 1), (70, .iconst 2, 1), (71, .aload_n 0, 1), (72, .getfield 37, 3), (75, .iconst 3, 1), (76, .aload_n 0, 1), (77, .getfield 140, 3), (80, .imul, 1), (81, .iconst 2, 1), (82, .iadd, 1), (83, .iaload, 1), (84, .aload_n 0, 1), (85, .getfield 34, 3), (88, .iconst 3, 1), (89, .aload_n 0, 1), (90, .getfield 140, 3), (93, .imul, 1), (94, .iconst 2, 1), (95, .iadd, 1), (96, .iaload, 1), (97, .invokevirtual 146, 3), (100, .ifCond .le 7, 3), (103, .iconst 1, 1), (104, .goto 4, 3), (107, .iconst 0, 1), (108, .istore_n 3, 1), (109, .aload_n 0, 1), (110, .getfield 40, 3), (113, .iload_n 2, 1), (114, .dup2, 1), (115, .iaload, 1), (116, .iload_n 3, 1), (117, .ifCond .eq 49, 3), (120, .aload_n 0, 1), (121, .getfield 37, 3), (124, .iconst 3, 1), (125, .aload_n 0, 1), (126, .getfield 140, 3)], [(129, .imul, 1), (130, .iconst 1, 1), (131, .iadd, 1), (132, .iaload, 1), (133, .aload_n 0, 1), (134, .getfield 37, 3), (137, .iconst 3, 1), (138, .iload_n 2, 1), (139, .imul, 1), (140, .iconst 1, 1), (141, .iadd, 1), (142, .iaload, 1), (143, .aload_n 0, 1), (144, .getfield 34, 3), (147, .iconst 3, 1), (148, .iload_n 2, 1), (149, .imul, 1), (150, .iconst 1, 1), (151, .iadd, 1), (152, .iaload, 1), (153, .iadd, 1), (154, .if_icmp .lt 12, 3), (157, .aload_n 0, 1), (158, .getfield 16, 3), (161, .iload_n 1, 1), (162, .iaload, 1), (163, .goto 4, 3), (166, .iconst 0, 1), (167, .isub, 1), (168, .iastore, 1), (169, .iinc 2 1, 3), (172, .goto (-143), 3), (175, .return_, 1)]]
def tb_c138 : List (List (Nat × ClassFile.Instr × Nat)) := [[(0, .aload_n 0, 1), (1, .iconst 0, 1), (2, .putfield 87, 3), (5, .aload_n 0, 1), (6, .getfield 98, 3), (9, .ifCond .eq 14, 3), (12, .aload_n 0, 1), (13, .getfield 163, 3), (16, .ifCond .ne 7, 3), (19, .iconst 1, 1), (20, .goto 4, 3), (23, .iconst 0, 1), (24, .ireturn, 1)]]
def tb_c139 : List (List (Nat × ClassFile.Instr × Nat)) := [[(0, .aload_n 0, 1), (1, .iconst 0, 1), (2, .putfield 87, 3), (5, .aload_n 0, 1), (6, .getfield 98, 3), (9, .ifCond .eq 10, 3), (12, .aload_n 0, 1), (13, .getfield 166, 3), (16, .goto 4, 3), (19, .iconst (-1), 1), (20, .ireturn, 1)]]
def tb_c140 : List (List (Nat × ClassFile.Instr × Nat)) := [[(0, .aload_n 0, 1), (1, .aload_n 0, 1), (2, .iload_n 1, 1), (3, .invokevirtual 116, 3), (6, .ifCond .ne 7, 3), (9, .iconst 1, 1), (10, .goto 17, 3), (13, .iload_n 2, 1), (14, .iconst 0, 1), (15, .iconst 5, 1), (16, .invokestatic 94, 3), (19, .ifCond .eq 7, 3), (22, .iconst 0, 1), (23, .goto 4, 3), (26, .iconst 2, 1), (27, .putfield 87, 3), (30, .aload_n 0, 1), (31, .getfield 87, 3), (34, .ifCond .le 5, 3), (37, .iconst 0, 1), (38, .ireturn, 1), (39, .aload_n 0, 1), (40, .iload_n 1, 1), (41, .invokevirtual 186, 3), (44, .istore_n 3, 1), (45, .iload_n 3, 1), (46, .ifCond .ge 5, 3), (49, .iconst (-1), 1), (50, .ireturn, 1), (51, .iload_n 2, 1), (52, .iconst 3, 1), (53, .if_icmp .ge 16, 3), (56, .aload_n 0, 1), (57, .getfield 71, 3), (60, .iconst 3, 1), (61, .iload_n 3, 1), (62, .imul, 1), (63, .iload_n 2, 1)], [(64, .iadd, 1), (65, .iaload, 1), (66, .goto 32, 3), (69, .iload_n 2, 1), (70, .iconst 3, 1), (71, .if_icmp .ne 12, 3), (74, .aload_n 0, 1), (75, .getfield 65, 3), (78, .iload_n 3, 1), (79, .iaload, 1), (80, .goto 18, 3), (83, .iload_n 2, 1), (84, .iconst 4, 1), (85, .if_icmp .ne 7, 3), (88, .iload_n 3, 1), (89, .goto 9, 3), (92, .aload_n 0, 1), (93, .getfield 74, 3), (96, .iload_n 3, 1), (97, .iaload, 1), (98, .ireturn, 1)]]
def tb_c141 : List (List (Nat × ClassFile.Instr × Nat)) := [[(0, .iconst 0, 1), (1, .istore_n 2, 1), (2, .iload_n 2, 1), (3, .aload_n 0, 1), (4, .getfield 102, 3), (7, .if_icmp .ge 21, 3), (10, .aload_n 0, 1), (11, .getfield 62, 3), (14, .iload_n 2, 1), (15, .iaload, 1), (16, .iload_n 1, 1), (17, .if_icmp .ne 5, 3), (20, .iload_n 2, 1), (21, .ireturn, 1), (22, .iinc 2 1, 3), (25, .goto (-23), 3), (28, .iconst (-1), 1), (29, .ireturn, 1)]]
def tb_c142 : List (List (Nat × ClassFile.Instr × Nat)) := [[(0, .aload_n 0, 1), (1, .iconst 0, 1), (2, .putfield 87, 3), (5, .aload_n 0, 1), (6, .getfield 109, 3), (9, .lreturn, 1)]]
def tb_c143 : List (List (Nat × ClassFile.Instr × Nat)) := [[(0, .aload_n 0, 1), (1, .aload_n 0, 1), (2, .iload_n 1, 1), (3, .invokevirtual 116, 3), (6, .ifCond .eq 15, 3), (9, .aload_n 0, 1), (10, .iload_n 2, 1), (11, .invokevirtual 116, 3), (14, .ifCond .eq 7, 3), (17, .iconst 0, 1), (18, .goto 4, 3), (21, .iconst 1, 1), (22, .putfield 87, 3), (25, .aload_n 0, 1), (26, .iload_n 1, 1), (27, .invokevirtual 186, 3), (30, .istore_n 3, 1), (31, .aload_n 0, 1), (32, .iload_n 2, 1), (33, .invokevirtual 186, 3), (36, .istore 4, 2), (38, .aload_n 0, 1), (39, .getfield 87, 3), (42, .ifCond .gt 47, 3), (45, .iload_n 3, 1), (46, .ifCond .lt 43, 3), (49, .iload 4, 2), (51, .ifCond .lt 38, 3), (54, .aload_n 0, 1), (55, .getfield 71, 3), (58, .iconst 3, 1), (59, .iload_n 3, 1), (60, .imul, 1), (61, .iconst 1, 1), (62, .iadd, 1), (63, .iaload, 1)], [(64, .aload_n 0, 1), (65, .getfield 68, 3), (68, .iconst 3, 1), (69, .iload_n 3, 1), (70, .imul, 1), (71, .iconst 1, 1), (72, .iadd, 1), (73, .iaload, 1), (74, .iadd, 1), (75, .aload_n 0, 1), (76, .getfield 71, 3), (79, .iconst 3, 1), (80, .iload 4, 2), (82, .imul, 1), (83, .iconst 1, 1), (84, .iadd, 1), (85, .iaload, 1), (86, .if_icmp .eq 5, 3), (89, .iconst 0, 1), (90, .ireturn, 1), (91, .aload_n 0, 1), (92, .getfield 71, 3), (95, .iconst 3, 1), (96, .iload_n 3, 1), (97, .imul, 1), (98, .iaload, 1), (99, .aload_n 0, 1), (100, .getfield 68, 3), (103, .iconst 3, 1), (104, .iload_n 3, 1), (105, .imul, 1), (106, .iaload, 1), (107, .aload_n 0, 1), (108, .getfield 71, 3), (111, .iconst 3, 1), (112, .iload 4, 2), (114, .imul, 1), (115, .iaload, 1), (116, .aload_n 0, 1), (117, .getfield 68, 3), (120, .iconst 3, 1), (121, .iload 4, 2), (123, .imul, 1), (124, .iaload, 1), (125, .invokestatic 189, 3)], [(128, .istore 5, 2), (130, .iload 5, 2), (132, .aload_n 0, 1), (133, .getfield 71, 3), (136, .iconst 3, 1), (137, .iload_n 3, 1), (138, .imul, 1), (139, .iconst 2, 1), (140, .iadd, 1), (141, .iaload, 1), (142, .aload_n 0, 1), (143, .getfield 68, 3), (146, .iconst 3, 1), (147, .iload_n 3, 1), (148, .imul, 1), (149, .iconst 2, 1), (150, .iadd, 1), (151, .iaload, 1), (152, .aload_n 0, 1), (153, .getfield 71, 3), (156, .iconst 3, 1), (157, .iload 4, 2), (159, .imul, 1), (160, .iconst 2, 1), (161, .iadd, 1), (162, .iaload, 1), (163, .aload_n 0, 1), (164, .getfield 68, 3), (167, .iconst 3, 1), (168, .iload 4, 2), (170, .imul, 1), (171, .iconst 2, 1), (172, .iadd, 1), (173, .iaload, 1), (174, .invokestatic 189, 3), (177, .imul, 1), (178, .ireturn, 1)]]
def tb_c144 : List (List (Nat × ClassFile.Instr × Nat)) := [[(0, .iload_n 0, 1), (1, .iload_n 2, 1), (2, .if_icmp .le 7, 3), (5, .iload_n 0, 1), (6, .goto 4, 3), (9, .iload_n 2, 1), (10, .istore 4, 2), (12, .iload_n 0, 1), (13, .iload_n 1, 1), (14, .iadd, 1), (15, .iload_n 2, 1), (16, .iload_n 3, 1), (17, .iadd, 1), (18, .if_icmp .ge 9, 3), (21, .iload_n 0, 1), (22, .iload_n 1, 1), (23, .iadd, 1), (24, .goto 6, 3), (27, .iload_n 2, 1), (28, .iload_n 3, 1), (29, .iadd, 1), (30, .istore 5, 2), (32, .iload 5, 2), (34, .iload 4, 2), (36, .if_icmp .le 11, 3), (39, .iload 5, 2), (41, .iload 4, 2), (43, .isub, 1), (44, .goto 4, 3), (47, .iconst 0, 1), (48, .ireturn, 1)]]
def tb_c145 : List (List (Nat × ClassFile.Instr × Nat)) := [[(0, .iload_n 1, 1), (1, .iconst 0, 1), (2, .sipush 1000, 3), (5, .invokestatic 94, 3), (8, .ifCond .eq 29, 3), (11, .aload_n 0, 1), (12, .getfield 192, 3), (15, .ifCond .eq 18, 3), (18, .iload_n 1, 1), (19, .aload_n 0, 1), (20, .getfield 77, 3), (23, .aload_n 0, 1), (24, .getfield 192, 3), (27, .iconst 1, 1), (28, .isub, 1), (29, .iaload, 1), (30, .if_icmp .le 7, 3), (33, .iconst 1, 1), (34, .goto 4, 3), (37, .iconst 0, 1), (38, .istore_n 2, 1), (39, .aload_n 0, 1), (40, .iload_n 2, 1), (41, .ifCond .ne 7, 3), (44, .iconst 1, 1), (45, .goto 17, 3), (48, .aload_n 0, 1), (49, .getfield 192, 3), (52, .bipush 6, 2), (54, .if_icmp .ne 7, 3), (57, .iconst 2, 1), (58, .goto 4, 3), (61, .iconst 0, 1), (62, .putfield 87, 3)], [(65, .aload_n 0, 1), (66, .getfield 87, 3), (69, .ifCond .le 5, 3), (72, .iconst 0, 1), (73, .ireturn, 1), (74, .aload_n 0, 1), (75, .getfield 77, 3), (78, .aload_n 0, 1), (79, .getfield 192, 3), (82, .iload_n 1, 1), (83, .iastore, 1), (84, .aload_n 0, 1), (85, .dup, 1), (86, .getfield 192, 3), (89, .iconst 1, 1), (90, .iadd, 1), (91, .putfield 192, 3), (94, .aload_n 0, 1), (95, .getfield 192, 3), (98, .iconst 1, 1), (99, .isub, 1), (100, .ireturn, 1)]]
def tb_c146 : List (List (Nat × ClassFile.Instr × Nat)) := [[(0, .aload_n 0, 1), (1, .aload_n 0, 1), (2, .getfield 192, 3), (5, .ifCond .ne 7, 3), (8, .iconst 1, 1), (9, .goto 35, 3), (12, .iload_n 1, 1), (13, .iconst 0, 1), (14, .aload_n 0, 1), (15, .getfield 192, 3), (18, .iconst 1, 1), (19, .isub, 1), (20, .invokestatic 94, 3), (23, .ifCond .ne 7, 3), (26, .iconst 2, 1), (27, .goto 17, 3), (30, .iload_n 2, 1), (31, .iconst 0, 1), (32, .iconst 1, 1), (33, .invokestatic 94, 3), (36, .ifCond .eq 7, 3), (39, .iconst 0, 1), (40, .goto 4, 3), (43, .iconst 3, 1), (44, .putfield 87, 3), (47, .aload_n 0, 1), (48, .getfield 87, 3), (51, .ifCond .le 5, 3), (54, .lconst 0, 1), (55, .lreturn, 1), (56, .lconst 0, 1), (57, .lstore_n 3, 1), (58, .lconst 0, 1), (59, .lstore 5, 2), (61, .iconst 0, 1), (62, .istore 7, 2)], [(64, .iload 7, 2), (66, .aload_n 0, 1), (67, .getfield 102, 3), (70, .if_icmp .ge 138, 3), (73, .aload_n 0, 1), (74, .getfield 16, 3), (77, .aload_n 0, 1), (78, .getfield 62, 3), (81, .iload 7, 2), (83, .iaload, 1), (84, .iaload, 1), (85, .istore 8, 2), (87, .iconst 2, 1), (88, .aload_n 0, 1), (89, .getfield 71, 3), (92, .iconst 3, 1), (93, .iload 7, 2), (95, .imul, 1), (96, .iconst 2, 1), (97, .iadd, 1), (98, .iaload, 1), (99, .imul, 1), (100, .aload_n 0, 1), (101, .getfield 68, 3), (104, .iconst 3, 1), (105, .iload 7, 2), (107, .imul, 1), (108, .iconst 2, 1), (109, .iadd, 1), (110, .iaload, 1), (111, .iadd, 1), (112, .istore 9, 2), (114, .aload_n 0, 1), (115, .iload 9, 2), (117, .invokevirtual 195, 3), (120, .istore 10, 2), (122, .aload_n 0, 1), (123, .getfield 192, 3), (126, .iconst 1, 1), (127, .if_icmp .ne 14, 3)], [(130, .lload 5, 2), (132, .iload 8, 2), (134, .i2l, 1), (135, .ladd, 1), (136, .lstore 5, 2), (138, .goto 64, 3), (141, .iload 10, 2), (143, .iload_n 1, 1), (144, .if_icmp .ne 30, 3), (147, .lload 5, 2), (149, .iload 8, 2), (151, .i2l, 1), (152, .iconst 2, 1), (153, .aload_n 0, 1), (154, .getfield 77, 3), (157, .iload 10, 2), (159, .iconst 1, 1), (160, .iadd, 1), (161, .iaload, 1), (162, .imul, 1), (163, .iload 9, 2), (165, .isub, 1), (166, .i2l, 1), (167, .lmul, 1), (168, .ladd, 1), (169, .lstore 5, 2), (171, .goto 31, 3), (174, .iload 10, 2), (176, .iload_n 1, 1), (177, .iconst 1, 1), (178, .isub, 1), (179, .if_icmp .ne 23, 3), (182, .lload_n 3, 1), (183, .iload 8, 2), (185, .i2l, 1), (186, .iload 9, 2), (188, .iconst 2, 1), (189, .aload_n 0, 1), (190, .getfield 77, 3)], [(193, .iload 10, 2), (195, .iaload, 1), (196, .imul, 1), (197, .isub, 1), (198, .i2l, 1), (199, .lmul, 1), (200, .ladd, 1), (201, .lstore_n 3, 1), (202, .iinc 7 1, 3), (205, .goto (-141), 3), (208, .iload_n 1, 1), (209, .ifCond .ne 7, 3), (212, .lconst 1, 1), (213, .goto 23, 3), (216, .ldc2_w 198, 3), (219, .aload_n 0, 1), (220, .getfield 77, 3), (223, .iload_n 1, 1), (224, .iaload, 1), (225, .aload_n 0, 1), (226, .getfield 77, 3), (229, .iload_n 1, 1), (230, .iconst 1, 1), (231, .isub, 1), (232, .iaload, 1), (233, .isub, 1), (234, .i2l, 1), (235, .lmul, 1), (236, .lstore 7, 2), (238, .iload_n 1, 1), (239, .aload_n 0, 1), (240, .getfield 192, 3), (243, .iconst 1, 1), (244, .isub, 1), (245, .if_icmp .ne 7, 3), (248, .lconst 1, 1), (249, .goto 23, 3), (252, .ldc2_w 198, 3), (255, .aload_n 0, 1)], [(256, .getfield 77, 3), (259, .iload_n 1, 1), (260, .iconst 1, 1), (261, .iadd, 1), (262, .iaload, 1), (263, .aload_n 0, 1), (264, .getfield 77, 3), (267, .iload_n 1, 1), (268, .iaload, 1), (269, .isub, 1), (270, .i2l, 1), (271, .lmul, 1), (272, .lstore 9, 2), (274, .lload_n 3, 1), (275, .lload 9, 2), (277, .lmul, 1), (278, .lload 5, 2), (280, .lload 7, 2), (282, .lmul, 1), (283, .ladd, 1), (284, .lstore 11, 2), (286, .lload 7, 2), (288, .lload 9, 2), (290, .lmul, 1), (291, .lstore 13, 2), (293, .lload 11, 2), (295, .lload 13, 2), (297, .invokestatic 200, 3), (300, .lstore 15, 2), (302, .iload_n 2, 1), (303, .ifCond .ne 11, 3), (306, .lload 11, 2), (308, .lload 15, 2), (310, .ldiv, 1), (311, .goto 8, 3), (314, .lload 13, 2), (316, .lload 15, 2), (318, .ldiv, 1), (319, .lreturn, 1)]]
def tb_c147 : List (List (Nat × ClassFile.Instr × Nat)) := [[(0, .iconst 0, 1), (1, .istore_n 2, 1), (2, .iload_n 2, 1), (3, .aload_n 0, 1), (4, .getfield 192, 3), (7, .iconst 2, 1), (8, .isub, 1), (9, .if_icmp .ge 23, 3), (12, .iload_n 1, 1), (13, .iconst 2, 1), (14, .aload_n 0, 1), (15, .getfield 77, 3), (18, .iload_n 2, 1), (19, .iconst 1, 1), (20, .iadd, 1), (21, .iaload, 1), (22, .imul, 1), (23, .if_icmp .lt 9, 3), (26, .iinc 2 1, 3), (29, .goto (-27), 3), (32, .iload_n 2, 1), (33, .ireturn, 1)]]
def tb_c148 : List (List (Nat × ClassFile.Instr × Nat)) := [[(0, .lload_n 0, 1), (1, .lconst 0, 1), (2, .lcmp, 1), (3, .ifCond .ge 8, 3), (6, .lload_n 0, 1), (7, .lneg, 1), (8, .goto 4, 3), (11, .lload_n 0, 1), (12, .lstore 4, 2), (14, .lload_n 2, 1), (15, .lstore 6, 2), (17, .lload 6, 2), (19, .lconst 0, 1), (20, .lcmp, 1), (21, .ifCond .eq 21, 3), (24, .lload 4, 2), (26, .lload 6, 2), (28, .lrem, 1), (29, .lstore 8, 2), (31, .lload 6, 2), (33, .lstore 4, 2), (35, .lload 8, 2), (37, .lstore 6, 2), (39, .goto (-22), 3), (42, .lload 4, 2), (44, .lreturn, 1)]]
def tb_ins : List (List (List (Nat × ClassFile.Instr × Nat))) := [tb_c0, tb_c1, tb_c2, tb_c3, tb_c4, tb_c5, tb_c6, tb_c7, tb_c8, tb_c9, tb_c10, tb_c11, tb_c12, tb_c13, tb_c14, tb_c15, tb_c16, tb_c17, tb_c18, tb_c19, tb_c20, tb_c21, tb_c22, tb_c23, tb_c24, tb_c25, tb_c26, tb_c27, tb_c28, tb_c29, tb_c30, tb_c31, tb_c32, tb_c33, tb_c34, tb_c35, tb_c36, tb_c37, tb_c38, tb_c39, tb_c40, tb_c41, tb_c42, tb_c43, tb_c44, tb_c45, tb_c46, tb_c47, tb_c48, tb_c49, tb_c50, tb_c51, tb_c52, tb_c53, tb_c54, tb_c55, tb_c56, tb_c57, tb_c58, tb_c59, tb_c60, tb_c61, tb_c62, tb_c63, tb_c64, tb_c65, tb_c66, tb_c67, tb_c68, tb_c69, tb_c70, tb_c71, tb_c72, tb_c73, tb_c74, tb_c75, tb_c76, tb_c77, tb_c78, tb_c79, tb_c80, tb_c81, tb_c82, tb_c83, tb_c84, tb_c85, tb_c86, tb_c87, tb_c88, tb_c89, tb_c90, tb_c91, tb_c92, tb_c93, tb_c94, tb_c95, tb_c96, tb_c97, tb_c98, tb_c99, tb_c100, tb_c101, tb_c102, tb_c103, tb_c104, tb_c105, tb_c106, tb_c107, tb_c108, tb_c109, tb_c110, tb_c111, tb_c112, tb_c113, tb_c114, tb_c115, tb_c116, tb_c117, tb_c118, tb_c119, tb_c120, tb_c121, tb_c122, tb_c123, tb_c124, tb_c125, tb_c126, tb_c127, tb_c128, tb_c129, tb_c130, tb_c131, tb_c132, tb_c133, tb_c134, tb_c135, tb_c136, tb_c137, tb_c138, tb_c139, tb_c140, tb_c141, tb_c142, tb_c143, tb_c144, tb_c145, tb_c146, tb_c147, tb_c148]
/-- fields by entry: (class, entry), (kind, place, type), the word's place, whether a nest mate's -/
def tb_fld : List ((Nat × Nat) × (Nat × Nat × Nat) × Nat × Bool) := [((0, 9), (0, 0, 2), 369, false), ((0, 15), (0, 1, 0), 370, false), ((0, 42), (7, 1, 0), 264, true), ((0, 47), (7, 0, 2), 261, true), ((0, 51), (6, 5, 0), 196, true), ((0, 56), (6, 11, 0), 215, true), ((0, 62), (6, 12, 0), 218, true), ((1, 7), (1, 0, 0), 83, false), ((1, 13), (1, 1, 0), 86, false), ((1, 16), (1, 2, 0), 89, false), ((2, 11), (2, 0, 2), 153, false), ((2, 20), (2, 1, 0), 155, false), ((2, 43), (5, 2, 0), 117, true), ((3, 11), (3, 0, 2), 286, false), ((3, 16), (3, 1, 2), 287, false), ((4, 7), (4, 0, 0), 301, false), ((4, 13), (1, 0, 0), 84, true), ((4, 18), (1, 2, 0), 90, true), ((4, 21), (4, 1, 0), 303, false), ((4, 24), (4, 2, 0), 305, false), ((4, 27), (4, 3, 0), 307, false), ((4, 30), (4, 4, 0), 309, false), ((4, 33), (4, 5, 0), 311, false), ((4, 36), (7, 1, 0), 263, true), ((4, 41), (7, 0, 2), 259, true), ((4, 45), (6, 7, 0), 200, true), ((4, 54), (6, 9, 0), 207, true), ((4, 55), (6, 11, 0), 213, true), ((4, 56), (6, 3, 0), 187, true), ((4, 65), (6, 6, 0), 198, true), ((4, 69), (6, 5, 0), 193, true), ((4, 72), (6, 8, 0), 204, true), ((5, 9), (5, 1, 2), 113, false), ((5, 15), (5, 0, 2), 112, false), ((5, 19), (5, 3, 0), 118, false), ((5, 23), (5, 4, 0), 119, false), ((5, 26), (5, 5, 0), 120, false), ((5, 29), (5, 6, 0), 121, false), ((5, 32), (5, 8, 0), 125, false), ((5, 36), (5, 9, 0), 128, false), ((5, 43), (5, 7, 0), 123, false), ((5, 46), (5, 2, 0), 115, false), ((5, 73), (1, 0, 0), 85, true), ((5, 76), (1, 1, 0), 88, true), ((5, 77), (1, 2, 0), 91, true), ((6, 7), (6, 0, 0), 181, false), ((6, 13), (6, 1, 0), 183, false), ((6, 16), (6, 2, 0), 185, false), ((6, 25), (6, 9, 0), 206, false), ((6, 31), (6, 10, 0), 210, false), ((6, 37), (6, 11, 0), 212, false), ((6, 40), (5, 6, 0), 122, true), ((6, 43), (6, 12, 0), 217, false), ((6, 44), (5, 8, 0), 126, true), ((6, 47), (6, 13, 0), 220, false), ((6, 48), (5, 9, 0), 129, true), ((6, 51), (6, 14, 0), 221, false), ((6, 52), (6, 15, 0), 223, false), ((6, 55), (6, 3, 0), 186, false), ((6, 58), (6, 4, 0), 189, false), ((6, 61), (6, 5, 0), 192, false), ((6, 64), (6, 6, 0), 197, false), ((6, 67), (6, 7, 0), 201, false), ((6, 70), (6, 8, 0), 203, false), ((7, 11), (7, 0, 2), 258, false), ((7, 20), (7, 1, 0), 262, false), ((7, 24), (7, 2, 0), 265, false), ((7, 27), (7, 3, 1), 267, false), ((7, 35), (6, 1, 0), 184, true), ((7, 38), (6, 4, 0), 190, true), ((7, 41), (6, 5, 0), 194, true), ((7, 70), (6, 9, 0), 209, true), ((7, 73), (6, 11, 0), 216, true), ((7, 76), (6, 15, 0), 224, true), ((7, 79), (6, 12, 0), 219, true), ((7, 82), (6, 14, 0), 222, true), ((7, 95), (6, 10, 0), 211, true), ((8, 12), (8, 2, 2), 328, false), ((8, 18), (8, 3, 2), 329, false), ((8, 24), (8, 4, 2), 331, false), ((8, 28), (8, 5, 2), 332, false), ((8, 31), (8, 6, 2), 333, false), ((8, 36), (8, 7, 2), 334, false), ((8, 40), (8, 9, 0), 336, false), ((8, 44), (8, 0, 2), 326, false), ((8, 48), (8, 1, 2), 327, false), ((8, 56), (8, 8, 0), 335, false), ((8, 59), (8, 10, 3), 338, false), ((8, 67), (7, 0, 2), 260, true), ((8, 71), (2, 1, 0), 156, true), ((8, 76), (2, 0, 2), 154, true), ((8, 84), (5, 1, 2), 114, true), ((8, 114), (6, 0, 0), 182, true), ((8, 117), (4, 0, 0), 302, true), ((8, 123), (6, 4, 0), 191, true), ((8, 128), (6, 7, 0), 202, true), ((8, 131), (1, 1, 0), 87, true), ((8, 136), (6, 9, 0), 208, true), ((8, 139), (6, 11, 0), 214, true), ((8, 142), (4, 1, 0), 304, true), ((8, 149), (4, 4, 0), 310, true), ((8, 163), (6, 5, 0), 195, true), ((8, 166), (6, 8, 0), 205, true), ((8, 169), (4, 5, 0), 312, true), ((8, 173), (6, 3, 0), 188, true), ((8, 176), (4, 2, 0), 306, true), ((8, 179), (6, 6, 0), 199, true), ((8, 182), (4, 3, 0), 308, true), ((9, 18), (9, 0, 2), 377, false), ((9, 27), (9, 1, 2), 378, false), ((9, 36), (9, 2, 2), 379, false), ((9, 43), (9, 3, 2), 380, false), ((9, 86), (5, 7, 0), 124, true), ((9, 98), (5, 8, 0), 127, true), ((9, 104), (5, 9, 0), 130, true), ((9, 107), (5, 2, 0), 116, true), ((9, 118), (8, 3, 2), 330, true), ((9, 122), (7, 2, 0), 266, true), ((9, 127), (8, 9, 0), 337, true), ((9, 130), (8, 10, 3), 339, true), ((9, 158), (7, 3, 1), 268, true), ((9, 178), (0, 1, 0), 371, true), ((10, 7), (10, 1, 2), 914, false), ((10, 13), (10, 3, 2), 916, false), ((10, 16), (10, 4, 2), 917, false), ((10, 19), (10, 5, 2), 918, false), ((10, 22), (10, 6, 2), 919, false), ((10, 25), (10, 7, 2), 920, false), ((10, 28), (10, 9, 2), 922, false), ((10, 31), (10, 10, 2), 923, false), ((10, 34), (10, 11, 2), 924, false), ((10, 37), (10, 12, 2), 925, false), ((10, 40), (10, 13, 2), 926, false), ((10, 43), (10, 14, 2), 927, false), ((10, 47), (10, 15, 2), 928, false), ((10, 50), (10, 16, 2), 929, false), ((10, 53), (10, 17, 2), 930, false), ((10, 56), (10, 18, 2), 931, false), ((10, 59), (10, 19, 2), 932, false), ((10, 62), (10, 26, 2), 939, false), ((10, 65), (10, 27, 2), 940, false), ((10, 68), (10, 28, 2), 941, false), ((10, 71), (10, 29, 2), 942, false), ((10, 74), (10, 30, 2), 943, false), ((10, 77), (10, 32, 2), 945, false), ((10, 80), (10, 33, 2), 946, false), ((10, 87), (10, 0, 0), 913, false), ((10, 91), (10, 2, 0), 915, false), ((10, 98), (10, 20, 3), 933, false), ((10, 102), (10, 23, 0), 936, false), ((10, 105), (10, 24, 1), 937, false), ((10, 109), (10, 25, 1), 938, false), ((10, 140), (10, 8, 0), 921, false), ((10, 163), (10, 21, 3), 934, false), ((10, 166), (10, 22, 0), 935, false), ((10, 192), (10, 31, 0), 944, false)]
/-- calls by entry: (class, entry), the method's number (1000: Object.<init>; 1001 on: an exception's <init> with a text), the word's place, whether a nest mate's -/
def tb_cal : List ((Nat × Nat) × Nat × Nat × Bool) := [((0, 3), 1000, 368, false), ((0, 19), 95, 841, false), ((0, 23), 101, 878, false), ((0, 27), 102, 883, false), ((0, 31), 104, 891, false), ((0, 34), 105, 895, false), ((0, 38), 99, 882, false), ((0, 59), 103, 887, false), ((0, 65), 106, 898, false), ((0, 71), 107, 901, false), ((1, 1), 1000, 82, false), ((2, 3), 1000, 104, false), ((2, 17), 7, 108, false), ((2, 24), 26, 538, false), ((2, 28), 30, 539, false), ((2, 36), 1003, 602, false), ((2, 39), 42, 588, false), ((2, 46), 19, 410, false), ((3, 3), 1000, 283, false), ((3, 20), 55, 666, false), ((3, 24), 3, 779, false), ((4, 1), 1000, 300, false), ((4, 50), 58, 671, false), ((4, 59), 3, 675, false), ((4, 66), 4, 676, false), ((5, 3), 1000, 111, false), ((5, 39), 31, 544, false), ((5, 49), 32, 548, false), ((5, 53), 38, 572, false), ((5, 56), 35, 560, false), ((5, 60), 36, 564, false), ((5, 63), 37, 568, false), ((5, 66), 33, 552, false), ((5, 69), 34, 556, false), ((6, 1), 1000, 180, false), ((6, 19), 35, 685, false), ((6, 28), 36, 686, false), ((6, 34), 37, 687, false), ((6, 73), 3, 737, false), ((6, 79), 4, 738, false), ((7, 3), 1000, 173, false), ((7, 17), 10, 177, false), ((7, 31), 85, 788, false), ((7, 44), 69, 721, false), ((7, 48), 71, 729, false), ((7, 51), 73, 739, false), ((7, 54), 75, 747, false), ((7, 57), 77, 755, false), ((7, 60), 70, 725, false), ((7, 63), 74, 743, false), ((7, 66), 72, 733, false), ((7, 85), 76, 751, false), ((7, 88), 78, 759, false), ((7, 91), 81, 771, false), ((8, 3), 1000, 167, false), ((8, 11), 9, 170, false), ((8, 23), 11, 280, false), ((8, 52), 12, 297, true), ((8, 53), 28, 530, false), ((8, 63), 53, 650, false), ((8, 80), 59, 677, false), ((8, 90), 60, 681, false), ((8, 96), 61, 688, false), ((8, 100), 54, 654, false), ((8, 104), 55, 658, false), ((8, 107), 56, 662, false), ((8, 111), 57, 667, false), ((8, 120), 62, 692, false), ((8, 124), 63, 696, false), ((8, 145), 64, 700, false), ((8, 152), 65, 704, false), ((8, 155), 4, 708, false), ((8, 160), 66, 709, false), ((8, 170), 67, 713, false), ((8, 183), 68, 717, false), ((8, 187), 79, 763, false), ((8, 190), 80, 767, false), ((8, 193), 82, 775, false), ((8, 197), 83, 780, false), ((8, 201), 84, 784, false), ((8, 205), 52, 792, false), ((8, 208), 86, 793, false), ((9, 1), 1000, 65, false), ((9, 9), 2, 70, false), ((9, 15), 5, 79, false), ((9, 24), 6, 101, false), ((9, 33), 8, 164, false), ((9, 42), 13, 365, true), ((9, 47), 24, 430, false), ((9, 55), 1001, 479, false), ((9, 58), 25, 433, false), ((9, 64), 26, 506, false), ((9, 72), 1002, 520, false), ((9, 73), 27, 526, false), ((9, 76), 29, 534, false), ((9, 80), 41, 584, false), ((9, 92), 31, 609, false), ((9, 112), 51, 642, false), ((9, 115), 52, 646, false), ((9, 134), 17, 402, false), ((9, 137), 18, 406, false), ((9, 138), 3, 73, false), ((9, 144), 42, 804, false), ((9, 149), 59, 806, false), ((9, 153), 89, 807, false), ((9, 162), 72, 818, false), ((9, 168), 94, 827, false), ((9, 173), 95, 832, false), ((9, 176), 96, 837, false), ((9, 185), 1004, 860, false), ((9, 186), 99, 866, false), ((9, 193), 1003, 872, false), ((9, 196), 100, 874, false), ((9, 200), 4, 76, false), ((10, 1), 1000, 909, false), ((10, 83), 109, 910, false), ((10, 94), 112, 1024, false), ((10, 113), 113, 1028, false), ((10, 116), 115, 1036, false), ((10, 120), 123, 1068, false), ((10, 124), 121, 1060, false), ((10, 128), 122, 1064, false), ((10, 131), 120, 1056, false), ((10, 134), 119, 1052, false), ((10, 137), 125, 1075, false), ((10, 143), 133, 1107, false), ((10, 146), 134, 1111, false), ((10, 150), 129, 1091, false), ((10, 153), 130, 1095, false), ((10, 156), 131, 1099, false), ((10, 159), 132, 1103, false), ((10, 169), 127, 1083, false), ((10, 172), 128, 1087, false), ((10, 176), 135, 1115, false), ((10, 180), 136, 1119, false), ((10, 183), 137, 1123, false), ((10, 186), 141, 1139, false), ((10, 189), 144, 1151, false), ((10, 195), 147, 1162, false), ((10, 200), 148, 1167, false), ((11, 7), 23, 426, false), ((11, 17), 40, 580, false), ((11, 23), 44, 613, false), ((11, 26), 46, 621, false), ((11, 29), 48, 630, false), ((11, 33), 50, 637, false), ((11, 36), 88, 800, false), ((11, 39), 91, 814, false), ((11, 42), 93, 822, false), ((11, 45), 98, 846, false), ((11, 51), 21, 418, false), ((11, 57), 1, 62, false), ((11, 62), 108, 906, false), ((11, 63), 22, 421, false), ((11, 66), 111, 1020, false), ((11, 67), 110, 1016, false), ((11, 71), 39, 576, false), ((11, 74), 114, 1032, false), ((11, 75), 43, 610, false), ((11, 77), 116, 1040, false), ((11, 78), 45, 618, false), ((11, 80), 117, 1044, false), ((11, 81), 47, 627, false), ((11, 84), 118, 1048, false), ((11, 85), 49, 634, false), ((11, 87), 126, 1079, false), ((11, 88), 14, 390, false), ((11, 92), 138, 1127, false), ((11, 93), 15, 394, false), ((11, 96), 139, 1131, false), ((11, 97), 16, 398, false), ((11, 100), 124, 1071, false), ((11, 101), 87, 797, false), ((11, 103), 140, 1135, false), ((11, 104), 20, 414, false), ((11, 108), 142, 1143, false), ((11, 109), 90, 811, false), ((11, 111), 143, 1147, false), ((11, 112), 92, 819, false), ((11, 114), 145, 1154, false), ((11, 115), 97, 842, false), ((11, 117), 146, 1158, false)]
/-- classes by entry: (class, entry), the kind (20 on: arrays; 30 on: exceptions), fields or 0, the word's place -/
def tb_cla : List ((Nat × Nat) × Nat × Nat) := [((2, 9), 5, 105), ((2, 32), 32, 592), ((3, 9), 26, 284), ((7, 9), 6, 174), ((8, 9), 7, 168), ((8, 21), 3, 278), ((8, 34), 4, 294), ((9, 7), 1, 68), ((9, 22), 2, 99), ((9, 31), 8, 162), ((9, 40), 0, 363), ((9, 51), 30, 436), ((9, 68), 31, 510), ((9, 181), 33, 850), ((9, 189), 32, 870), ((11, 8), 9, 60), ((11, 13), 30, 424), ((11, 15), 31, 425), ((11, 21), 32, 579), ((11, 49), 33, 845), ((11, 60), 10, 904)]
/-- slots of a kind's object -/
def tb_slt : List (Nat × Nat × Nat) := [(0, 2, 364), (1, 3, 69), (2, 2, 100), (3, 2, 279), (4, 6, 296), (5, 10, 107), (6, 16, 176), (7, 4, 169), (8, 11, 163), (9, 4, 61), (10, 34, 905), (30, 6, 437), (31, 6, 511), (32, 6, 593), (33, 6, 851)]
def tb_int : List ((Nat × Nat) × Int32 × Nat) := [((5, 35), 100000, 543), ((9, 101), 100000, 625), ((10, 112), 100000, 1027)]
def tb_lon : List ((Nat × Nat) × Int64 × Nat) := [((10, 198), 2, 1166)]
def tb_str : List ((Nat × Nat) × String × Nat) := [((2, 34), "there is no such piece", 601), ((9, 53), "a length is not 1 .. 200", 478), ((9, 62), "the weight is not 1 .. 10000", 505), ((9, 70), "there are 8 pieces", 519), ((9, 84), "the marks are not 0 .. 3", 608), ((9, 96), "the stop is not 0 .. 9", 617), ((9, 102), "the limit is not 0 .. 100000", 626), ((9, 110), "the steps are not 1 .. 1000", 641), ((9, 147), "what is not 0 .. 5", 805), ((9, 166), "the place is not 0 .. 1000", 826), ((9, 171), "the place is not above the last one's", 831), ((9, 174), "there are 6 axles", 836), ((9, 183), "there is no axle", 859), ((9, 191), "there is no such axle", 871), ((9, 194), "the part is not 0 or 1", 873)]
/-- the places of the words on how fields lie -/
def tb_lay : List (List Nat) := [[372, 374], [92, 94, 96], [157, 159], [288, 290], [313, 315, 317, 319, 321, 323], [131, 133, 135, 137, 139, 141, 143, 145, 147, 149], [225, 227, 229, 231, 233, 235, 237, 239, 241, 243, 245, 247, 249, 251, 253, 255], [269, 271, 273, 275], [340, 342, 344, 346, 348, 350, 352, 354, 356, 358, 360], [381, 383, 385, 387], [947, 949, 951, 953, 955, 957, 959, 961, 963, 965, 967, 969, 971, 973, 975, 977, 979, 981, 983, 985, 987, 989, 991, 993, 995, 997, 999, 1001, 1003, 1005, 1007, 1009, 1011, 1013]]
/-- a method: the places of its words: code, instance or static, selects, initialized -/
def tb_mw : List (Nat × Nat × Nat × Nat) := [(0, 0, 0, 0), (64, 63, 0, 41), (72, 71, 0, 41), (75, 74, 0, 43), (78, 77, 0, 43), (81, 80, 0, 42), (103, 102, 0, 44), (110, 109, 0, 45), (166, 165, 0, 46), (172, 171, 0, 47), (179, 178, 0, 48), (282, 281, 0, 49), (299, 298, 0, 50), (367, 366, 0, 51), (393, 391, 392, 41), (397, 395, 396, 41), (401, 399, 400, 41), (405, 403, 404, 42), (409, 407, 408, 44), (413, 411, 412, 45), (417, 415, 416, 41), (420, 419, 0, 40), (423, 422, 0, 40), (429, 427, 428, 41), (432, 431, 0, 41), (435, 434, 0, 41), (509, 507, 508, 44), (529, 527, 528, 46), (533, 531, 532, 47), (537, 535, 536, 44), (542, 540, 541, 45), (547, 545, 546, 45), (551, 550, 1, 45), (555, 554, 2, 45), (559, 558, 3, 45), (563, 561, 562, 45), (567, 565, 566, 45), (571, 569, 570, 45), (575, 574, 4, 45), (578, 577, 0, 40), (583, 581, 582, 41), (587, 585, 586, 44), (591, 589, 590, 44), (612, 611, 0, 40), (616, 614, 615, 41), (620, 619, 0, 40), (624, 622, 623, 41), (629, 628, 0, 40), (633, 631, 632, 41), (636, 635, 0, 40), (640, 638, 639, 41), (645, 643, 644, 46), (649, 647, 648, 46), (653, 652, 5, 46), (657, 655, 656, 50), (661, 659, 660, 49), (665, 663, 664, 49), (670, 668, 669, 50), (674, 673, 6, 50), (680, 678, 679, 47), (684, 682, 683, 48), (691, 690, 7, 46), (695, 693, 694, 48), (699, 697, 698, 47), (703, 702, 8, 46), (707, 705, 706, 47), (712, 710, 711, 48), (716, 714, 715, 48), (720, 718, 719, 47), (724, 723, 9, 47), (728, 726, 727, 48), (732, 731, 10, 47), (736, 734, 735, 48), (742, 741, 11, 47), (746, 744, 745, 48), (750, 749, 12, 47), (754, 752, 753, 48), (758, 757, 13, 47), (762, 760, 761, 48), (766, 765, 14, 46), (770, 768, 769, 47), (774, 773, 15, 47), (778, 776, 777, 49), (783, 781, 782, 47), (787, 785, 786, 47), (791, 789, 790, 48), (796, 794, 795, 47), (799, 798, 0, 40), (803, 801, 802, 41), (810, 808, 809, 48), (813, 812, 0, 40), (817, 815, 816, 41), (821, 820, 0, 40), (825, 823, 824, 41), (830, 828, 829, 51), (835, 833, 834, 51), (840, 838, 839, 51), (844, 843, 0, 40), (849, 847, 848, 41), (869, 867, 868, 51), (877, 875, 876, 51), (881, 880, 16, 51), (886, 885, 17, 51), (890, 889, 18, 51), (894, 893, 19, 51), (897, 896, 0, 51), (900, 899, 0, 43), (903, 902, 0, 51), (908, 907, 0, 52), (912, 911, 0, 52), (1019, 1017, 1018, 52), (1023, 1021, 1022, 52), (1026, 1025, 0, 52), (1031, 1030, 20, 52), (1035, 1033, 1034, 52), (1039, 1038, 21, 52), (1043, 1041, 1042, 52), (1047, 1045, 1046, 52), (1051, 1049, 1050, 52), (1055, 1054, 22, 52), (1059, 1058, 23, 52), (1063, 1062, 24, 52), (1067, 1066, 25, 52), (1070, 1069, 0, 52), (1074, 1072, 1073, 52), (1078, 1077, 26, 52), (1082, 1080, 1081, 52), (1086, 1085, 27, 52), (1090, 1089, 28, 52), (1094, 1093, 29, 52), (1098, 1097, 30, 52), (1102, 1101, 31, 52), (1106, 1105, 32, 52), (1110, 1109, 33, 52), (1114, 1113, 34, 52), (1118, 1117, 35, 52), (1122, 1121, 36, 52), (1126, 1125, 37, 52), (1130, 1128, 1129, 52), (1134, 1132, 1133, 52), (1138, 1136, 1137, 52), (1142, 1141, 38, 52), (1146, 1144, 1145, 52), (1150, 1148, 1149, 52), (1153, 1152, 0, 52), (1157, 1155, 1156, 52), (1161, 1159, 1160, 52), (1165, 1164, 39, 52), (1169, 1168, 0, 52)]
/-- kinds: the name, the place of the word that it is initialised -/
def tb_kin : List (Nat × String × Nat) := [(0, "LoadRoom$Axles", 51), (1, "LoadRoom$Box", 42), (2, "LoadRoom$Cargo", 44), (3, "LoadRoom$Ends", 49), (4, "LoadRoom$Floor", 50), (5, "LoadRoom$Piece", 45), (6, "LoadRoom$Placed", 48), (7, "LoadRoom$Row", 47), (8, "LoadRoom$Search", 46), (9, "LoadRoom", 41), (10, "LoadRoomModel", 52), (30, "java/lang/IllegalArgumentException", 56), (31, "java/lang/IllegalStateException", 57), (32, "java/lang/IndexOutOfBoundsException", 58), (33, "java/lang/ArithmeticException", 59)]
end
section
/-! THE MODEL MACHINE: a small definitional interpreter of the program's bytecode over a typed heap. Part 04 on: what it does, the JVM does. -/
abbrev mm_H : Type := (Nat × Nat) × (Nat → Nat × Nat) × (Nat → Nat → Int32) × (Nat → Nat → Int64) × (Nat → Nat → Option Nat)
/-- cells and slots made; shapes (kind, length); ints, longs, references of a cell by their places -/
def mm_n (h : mm_H) : Nat := h.1.1
def mm_z (h : mm_H) : Nat := h.1.2
def mm_s (h : mm_H) (a : Nat) : Nat × Nat := h.2.1 a
def mm_i (h : mm_H) (a k : Nat) : Int32 := h.2.2.1 a k
def mm_l (h : mm_H) (a k : Nat) : Int64 := h.2.2.2.1 a k
def mm_r (h : mm_H) (a k : Nat) : Option Nat := h.2.2.2.2 a k
def mm_up {α : Type} (f : Nat → Nat → α) (a k : Nat) (v : α) : Nat → Nat → α := fun b j => if b = a ∧ j = k then v else f b j
def mm_pi (h : mm_H) (a k : Nat) (v : Int32) : mm_H := (h.1, h.2.1, mm_up h.2.2.1 a k v, h.2.2.2.1, h.2.2.2.2)
def mm_pl (h : mm_H) (a k : Nat) (v : Int64) : mm_H := (h.1, h.2.1, h.2.2.1, mm_up h.2.2.2.1 a k v, h.2.2.2.2)
def mm_pr (h : mm_H) (a k : Nat) (v : Option Nat) : mm_H := (h.1, h.2.1, h.2.2.1, h.2.2.2.1, mm_up h.2.2.2.2 a k v)
def mm_nw (h : mm_H) (kd len sl : Nat) : mm_H := ((h.1.1 + 1, h.1.2 + sl), (fun b => if b = h.1.1 then (kd, len) else h.2.1 b), (fun b j => if b = h.1.1 then 0 else h.2.2.1 b j), (fun b j => if b = h.1.1 then 0 else h.2.2.2.1 b j), (fun b j => if b = h.1.1 then none else h.2.2.2.2 b j))
/-- an array of n int arrays of length k: the outer one, then the inner ones -/
def mm_nw2 (h : mm_H) (kd kd2 n k : Nat) : mm_H := ((h.1.1 + 1 + n, h.1.2 + n + n * k), (fun b => if b = h.1.1 then (kd, n) else if h.1.1 < b ∧ b ≤ h.1.1 + n then (kd2, k) else h.2.1 b), (fun b j => if h.1.1 ≤ b ∧ b ≤ h.1.1 + n then 0 else h.2.2.1 b j), (fun b j => if h.1.1 ≤ b ∧ b ≤ h.1.1 + n then 0 else h.2.2.2.1 b j), (fun b j => if b = h.1.1 then (if j < n then some (h.1.1 + 1 + j) else none) else if h.1.1 ≤ b ∧ b ≤ h.1.1 + n then none else h.2.2.2.2 b j))
def mm_o : Option Nat → Value
  | none => .null
  | some a => .ref a
/-- what stands behind a long, and in variables that hold nothing yet -/
def mm_j : Value := .retAddr 0
theorem mm_o_some (a : Nat) : mm_o (some a) = .ref a := rfl
theorem mm_o_none : mm_o none = .null := rfl
-- reading behind a write
theorem mm_i_pi (h : mm_H) (a k : Nat) (v : Int32) (b j : Nat) : mm_i (mm_pi h a k v) b j = if b = a ∧ j = k then v else mm_i h b j := rfl
theorem mm_i_pl (h : mm_H) (a k : Nat) (v : Int64) : mm_i (mm_pl h a k v) = mm_i h := rfl
theorem mm_i_pr (h : mm_H) (a k : Nat) (v : Option Nat) : mm_i (mm_pr h a k v) = mm_i h := rfl
theorem mm_l_pl (h : mm_H) (a k : Nat) (v : Int64) (b j : Nat) : mm_l (mm_pl h a k v) b j = if b = a ∧ j = k then v else mm_l h b j := rfl
theorem mm_l_pi (h : mm_H) (a k : Nat) (v : Int32) : mm_l (mm_pi h a k v) = mm_l h := rfl
theorem mm_l_pr (h : mm_H) (a k : Nat) (v : Option Nat) : mm_l (mm_pr h a k v) = mm_l h := rfl
theorem mm_r_pr (h : mm_H) (a k : Nat) (v : Option Nat) (b j : Nat) : mm_r (mm_pr h a k v) b j = if b = a ∧ j = k then v else mm_r h b j := rfl
theorem mm_r_pi (h : mm_H) (a k : Nat) (v : Int32) : mm_r (mm_pi h a k v) = mm_r h := rfl
theorem mm_r_pl (h : mm_H) (a k : Nat) (v : Int64) : mm_r (mm_pl h a k v) = mm_r h := rfl
theorem mm_s_pi (h : mm_H) (a k : Nat) (v : Int32) : mm_s (mm_pi h a k v) = mm_s h := rfl
theorem mm_s_pl (h : mm_H) (a k : Nat) (v : Int64) : mm_s (mm_pl h a k v) = mm_s h := rfl
theorem mm_s_pr (h : mm_H) (a k : Nat) (v : Option Nat) : mm_s (mm_pr h a k v) = mm_s h := rfl
theorem mm_n_pi (h : mm_H) (a k : Nat) (v : Int32) : mm_n (mm_pi h a k v) = mm_n h := rfl
theorem mm_n_pl (h : mm_H) (a k : Nat) (v : Int64) : mm_n (mm_pl h a k v) = mm_n h := rfl
theorem mm_n_pr (h : mm_H) (a k : Nat) (v : Option Nat) : mm_n (mm_pr h a k v) = mm_n h := rfl
theorem mm_z_pi (h : mm_H) (a k : Nat) (v : Int32) : mm_z (mm_pi h a k v) = mm_z h := rfl
theorem mm_z_pl (h : mm_H) (a k : Nat) (v : Int64) : mm_z (mm_pl h a k v) = mm_z h := rfl
theorem mm_z_pr (h : mm_H) (a k : Nat) (v : Option Nat) : mm_z (mm_pr h a k v) = mm_z h := rfl
theorem mm_n_nw (h : mm_H) (kd len sl : Nat) : mm_n (mm_nw h kd len sl) = mm_n h + 1 := rfl
theorem mm_z_nw (h : mm_H) (kd len sl : Nat) : mm_z (mm_nw h kd len sl) = mm_z h + sl := rfl
theorem mm_s_nw (h : mm_H) (kd len sl b : Nat) : mm_s (mm_nw h kd len sl) b = if b = mm_n h then (kd, len) else mm_s h b := rfl
theorem mm_i_nw (h : mm_H) (kd len sl b j : Nat) : mm_i (mm_nw h kd len sl) b j = if b = mm_n h then 0 else mm_i h b j := rfl
theorem mm_l_nw (h : mm_H) (kd len sl b j : Nat) : mm_l (mm_nw h kd len sl) b j = if b = mm_n h then 0 else mm_l h b j := rfl
theorem mm_r_nw (h : mm_H) (kd len sl b j : Nat) : mm_r (mm_nw h kd len sl) b j = if b = mm_n h then none else mm_r h b j := rfl
/-! tables, read -/
def tb_cod (y pc : Nat) : Option (ClassFile.Instr × Nat) := ((tb_ins.getD y []).getD (pc / 64) []).lookup pc
def tb_dm : Nat × String × String × Nat × Nat × Nat × Bool := (0, "", "", 0, 0, 0, false)
def tb_cls (y : Nat) : Nat := (tb_met.getD y tb_dm).1
def tb_nL (y : Nat) : Nat := (tb_met.getD y tb_dm).2.2.2.1
def tb_rt (y : Nat) : Nat := (tb_met.getD y tb_dm).2.2.2.2.1
def tb_na (y : Nat) : Nat := (tb_met.getD y tb_dm).2.2.2.2.2.1
def tb_sta (y : Nat) : Bool := (tb_met.getD y tb_dm).2.2.2.2.2.2
def tb_fl (y idx : Nat) : Option (Nat × Nat × Nat) := (tb_fld.lookup (tb_cls y, idx)).map (·.1)
def tb_ca (y idx : Nat) : Option Nat := (tb_cal.lookup (tb_cls y, idx)).map (·.1)
def tb_ck (y idx : Nat) : Option Nat := (tb_cla.lookup (tb_cls y, idx)).map (·.1)
def tb_sl (kd : Nat) : Nat := ((tb_slt.lookup kd).map (·.1)).getD 0
def tb_ci (y idx : Nat) : Option Int32 := (tb_int.lookup (tb_cls y, idx)).map (·.1)
def tb_cl2 (y idx : Nat) : Option Int64 := (tb_lon.lookup (tb_cls y, idx)).map (·.1)
def tb_cs (y idx : Nat) : Option Nat := tb_str.findIdx? (fun q => q.1 == (tb_cls y, idx))
/-- the handler of a throw at pc -/
def mm_hnd (y pc kd : Nat) : Option Nat := ((tb_han.getD y []).find? (fun q => decide (q.1 ≤ pc) && (decide (pc < q.2.1) && decide (q.2.2.2.1 = kd)))).map (·.2.2.1)
/-- a variable set: never just behind a long -/
def mm_set (y : Nat) (ls : List Value) (i : Nat) (v : Value) : Option (List Value) :=
  if (tb_lng.getD y []).any (fun j => j + 1 == i) then
    match ls[i - 1]? with
    | some (.int _) => some (ls.set i v)
    | some (.ref _) => some (ls.set i v)
    | _ => none
  else some (ls.set i v)
def mm_set2 (y : Nat) (ls : List Value) (i : Nat) (v : Value) : Option (List Value) :=
  if (tb_lng.getD y []).any (fun j => j == i) then
    if (tb_lng.getD y []).any (fun j => j + 1 == i) then none else some ((ls.set i v).set (i + 1) mm_j)
  else none
/-- arguments as they lie in the callee's variables -/
def mm_x : List Value → List Value
  | [] => []
  | v :: r => if v.category = 2 then v :: mm_j :: mm_x r else v :: mm_x r
def mm_ent (z : Nat) (as : List Value) : List Value := mm_x as ++ List.replicate (tb_nL z - (mm_x as).length) mm_j
/-- longs lie where the method has longs -/
def mm_e2 (lng : List Nat) : Nat → List Value → Bool
  | _, [] => true
  | i, v :: r => (v.category != 2 || lng.contains i) && mm_e2 lng (i + 1) r
def mm_eok (z : Nat) (env : List Value) : Bool := (env.length == tb_nL z) && mm_e2 (tb_lng.getD z []) 0 env
def mm_t (pc : Nat) (off : Int) : Nat := ((pc : Int) + off).toNat
def mm_c (c : ClassFile.Cond) (a b : Int32) : Bool := match c with
  | .eq => decide (a = b)
  | .ne => decide (¬ a = b)
  | .lt => decide (a < b)
  | .ge => decide (b ≤ a)
  | .gt => decide (b < a)
  | .le => decide (a ≤ b)
/-- a place in an array, looked at -/
def mm_in (j : Int32) (n : Nat) : Bool := decide (0 ≤ j) && decide (j.toNatClampNeg < n)
/-- go on there; call; return; throw -/
abbrev mm_A : Type := (Nat × List Value × List Value × mm_H) ⊕ ((Nat × List Value × List Value) ⊕ (Option Value ⊕ Nat))
def mm_go (pc : Nat) (ls st : List Value) (h : mm_H) : Option mm_A := some (.inl (pc, ls, st, h))
def mm_if (c : Prop) [Decidable c] (x : Option mm_A) : Option mm_A := if c then x else none
/-- a call: its arguments off the stack -/
def mm_call (z : Nat) (st : List Value) (h : mm_H) : Option mm_A :=
  mm_if ((tb_na z ≤ st.length ∧ st.length ≤ tb_na z + 8) ∧ mm_eok z (mm_ent z (st.take (tb_na z)).reverse) = true) (some (.inr (.inl (z, (st.take (tb_na z)).reverse, st.drop (tb_na z)))))
def mm_callV (z : Nat) (st : List Value) (h : mm_H) : Option mm_A :=
  match st[tb_na z - 1]? with
  | some (.ref a) => mm_if ((mm_s h a).1 = tb_cls z) (mm_call z st h)
  | _ => none
def mm_callI (z : Nat) (st : List Value) (h : mm_H) : Option mm_A :=
  match st[tb_na z - 1]? with
  | some (.ref _) => mm_call z st h
  | _ => none
def mm_act (y pc : Nat) (i : ClassFile.Instr) (ls st : List Value) (h : mm_H) : Option mm_A := match i with
  | .iconst n => mm_go (pc + 1) ls (.int (Int32.ofInt n) :: st) h
  | .bipush n => mm_go (pc + 2) ls (.int (Int8.ofInt n).toInt32 :: st) h
  | .sipush n => mm_go (pc + 3) ls (.int (Int16.ofInt n).toInt32 :: st) h
  | .lconst n => mm_go (pc + 1) ls (.long (Int64.ofNat (n : Nat)) :: st) h
  | .aconst_null => mm_go (pc + 1) ls (.null :: st) h
  | .ldc k => match tb_ci y k with
    | some v => mm_go (pc + 2) ls (.int v :: st) h
    | none => match tb_cs y k with
      | some q => mm_go (pc + 2) ls (.float (UInt32.ofNat q) :: st) h
      | none => none
  | .ldc2_w k => match tb_cl2 y k with
    | some v => mm_go (pc + 3) ls (.long v :: st) h
    | none => none
  | .iload k => match ls[k]? with
    | some (.int x) => mm_go (pc + 2) ls (.int x :: st) h
    | _ => none
  | .iload_n k => match ls[(k : Nat)]? with
    | some (.int x) => mm_go (pc + 1) ls (.int x :: st) h
    | _ => none
  | .lload k => match ls[k]? with
    | some (.long x) => mm_go (pc + 2) ls (.long x :: st) h
    | _ => none
  | .lload_n k => match ls[(k : Nat)]? with
    | some (.long x) => mm_go (pc + 1) ls (.long x :: st) h
    | _ => none
  | .aload k => match ls[k]? with
    | some (.ref x) => mm_go (pc + 2) ls (.ref x :: st) h
    | some .null => mm_go (pc + 2) ls (.null :: st) h
    | _ => none
  | .aload_n k => match ls[(k : Nat)]? with
    | some (.ref x) => mm_go (pc + 1) ls (.ref x :: st) h
    | some .null => mm_go (pc + 1) ls (.null :: st) h
    | _ => none
  | .istore k => match st with
    | .int x :: r => (mm_set y ls k (.int x)).bind (fun ls' => mm_go (pc + 2) ls' r h)
    | _ => none
  | .istore_n k => match st with
    | .int x :: r => (mm_set y ls k (.int x)).bind (fun ls' => mm_go (pc + 1) ls' r h)
    | _ => none
  | .lstore k => match st with
    | .long x :: r => (mm_set2 y ls k (.long x)).bind (fun ls' => mm_go (pc + 2) ls' r h)
    | _ => none
  | .lstore_n k => match st with
    | .long x :: r => (mm_set2 y ls k (.long x)).bind (fun ls' => mm_go (pc + 1) ls' r h)
    | _ => none
  | .astore k => match st with
    | .ref x :: r => (mm_set y ls k (.ref x)).bind (fun ls' => mm_go (pc + 2) ls' r h)
    | .null :: r => (mm_set y ls k .null).bind (fun ls' => mm_go (pc + 2) ls' r h)
    | _ => none
  | .astore_n k => match st with
    | .ref x :: r => (mm_set y ls k (.ref x)).bind (fun ls' => mm_go (pc + 1) ls' r h)
    | .null :: r => (mm_set y ls k .null).bind (fun ls' => mm_go (pc + 1) ls' r h)
    | _ => none
  | .iinc k n => match ls[k]? with
    | some (.int x) => (mm_set y ls k (.int (x + Int32.ofInt n))).bind (fun ls' => mm_go (pc + 3) ls' st h)
    | _ => none
  | .iadd => match st with
    | .int b :: .int a :: r => mm_go (pc + 1) ls (.int (a + b) :: r) h
    | _ => none
  | .isub => match st with
    | .int b :: .int a :: r => mm_go (pc + 1) ls (.int (a - b) :: r) h
    | _ => none
  | .imul => match st with
    | .int b :: .int a :: r => mm_go (pc + 1) ls (.int (a * b) :: r) h
    | _ => none
  | .iand => match st with
    | .int b :: .int a :: r => mm_go (pc + 1) ls (.int (a &&& b) :: r) h
    | _ => none
  | .idiv => match st with
    | .int b :: .int a :: r => mm_if (¬ b = 0) (mm_go (pc + 1) ls (.int (a / b) :: r) h)
    | _ => none
  | .irem => match st with
    | .int b :: .int a :: r => mm_if (¬ b = 0) (mm_go (pc + 1) ls (.int (a - a / b * b) :: r) h)
    | _ => none
  | .ladd => match st with
    | .long b :: .long a :: r => mm_go (pc + 1) ls (.long (a + b) :: r) h
    | _ => none
  | .lmul => match st with
    | .long b :: .long a :: r => mm_go (pc + 1) ls (.long (a * b) :: r) h
    | _ => none
  | .ldiv => match st with
    | .long b :: .long a :: r => mm_if (¬ b = 0) (mm_go (pc + 1) ls (.long (a / b) :: r) h)
    | _ => none
  | .lrem => match st with
    | .long b :: .long a :: r => mm_if (¬ b = 0) (mm_go (pc + 1) ls (.long (a - a / b * b) :: r) h)
    | _ => none
  | .lneg => match st with
    | .long a :: r => mm_go (pc + 1) ls (.long (-a) :: r) h
    | _ => none
  | .i2l => match st with
    | .int a :: r => mm_go (pc + 1) ls (.long a.toInt64 :: r) h
    | _ => none
  | .l2i => match st with
    | .long a :: r => mm_go (pc + 1) ls (.int a.toInt32 :: r) h
    | _ => none
  | .lcmp => match st with
    | .long b :: .long a :: r => mm_go (pc + 1) ls (.int (if b < a then 1 else if a = b then 0 else -1) :: r) h
    | _ => none
  | .dup => match st with
    | .int a :: r => mm_go (pc + 1) ls (.int a :: .int a :: r) h
    | .ref a :: r => mm_go (pc + 1) ls (.ref a :: .ref a :: r) h
    | _ => none
  | .pop => match st with
    | .int _ :: r => mm_go (pc + 1) ls r h
    | .ref _ :: r => mm_go (pc + 1) ls r h
    | _ => none
  | .dup2 => match st with
    | .int b :: .ref a :: r => mm_go (pc + 1) ls (.int b :: .ref a :: .int b :: .ref a :: r) h
    | _ => none
  | .ifCond c off => match st with
    | .int a :: r => mm_go (if mm_c c a 0 = true then mm_t pc off else pc + 3) ls r h
    | _ => none
  | .if_icmp c off => match st with
    | .int b :: .int a :: r => mm_go (if mm_c c a b = true then mm_t pc off else pc + 3) ls r h
    | _ => none
  | .ifnull off => match st with
    | .null :: r => mm_go (mm_t pc off) ls r h
    | .ref _ :: r => mm_go (pc + 3) ls r h
    | _ => none
  | .ifnonnull off => match st with
    | .null :: r => mm_go (pc + 3) ls r h
    | .ref _ :: r => mm_go (mm_t pc off) ls r h
    | _ => none
  | .goto off => mm_go (mm_t pc off) ls st h
  | .tableswitch d lo hi offs => match st with
    | .int x :: r => mm_go (if x.toInt < lo ∨ hi < x.toInt then mm_t pc d else mm_t pc (offs.toList.getD (x.toInt - lo).toNat 0)) ls r h
    | _ => none
  | .getfield k => match st, tb_fl y k with
    | .ref a :: r, some (kd, p, ty) => mm_if ((mm_s h a).1 = kd) (mm_go (pc + 3) ls ((if ty = 1 then .long (mm_l h a p) else if ty = 2 then mm_o (mm_r h a p) else .int (mm_i h a p)) :: r) h)
    | _, _ => none
  | .putfield k => match st, tb_fl y k with
    | .int v :: .ref a :: r, some (kd, p, ty) => mm_if ((mm_s h a).1 = kd ∧ (ty = 0 ∨ ty = 3 ∧ (v = 0 ∨ v = 1))) (mm_go (pc + 3) ls r (mm_pi h a p v))
    | .long v :: .ref a :: r, some (kd, p, ty) => mm_if ((mm_s h a).1 = kd ∧ ty = 1) (mm_go (pc + 3) ls r (mm_pl h a p v))
    | .ref b :: .ref a :: r, some (kd, p, ty) => mm_if ((mm_s h a).1 = kd ∧ ty = 2) (mm_go (pc + 3) ls r (mm_pr h a p (some b)))
    | _, _ => none
  | .iaload => match st with
    | .int j :: .ref a :: r => mm_if ((mm_s h a).1 = 20 ∧ mm_in j (mm_s h a).2 = true) (mm_go (pc + 1) ls (.int (mm_i h a j.toNatClampNeg) :: r) h)
    | _ => none
  | .laload => match st with
    | .int j :: .ref a :: r => mm_if ((mm_s h a).1 = 21 ∧ mm_in j (mm_s h a).2 = true) (mm_go (pc + 1) ls (.long (mm_l h a j.toNatClampNeg) :: r) h)
    | _ => none
  | .baload => match st with
    | .int j :: .ref a :: r => mm_if ((mm_s h a).1 = 22 ∧ mm_in j (mm_s h a).2 = true) (mm_go (pc + 1) ls (.int (mm_i h a j.toNatClampNeg) :: r) h)
    | _ => none
  | .aaload => match st with
    | .int j :: .ref a :: r => mm_if (23 ≤ (mm_s h a).1 ∧ (mm_s h a).1 ≤ 26 ∧ mm_in j (mm_s h a).2 = true) (mm_go (pc + 1) ls (mm_o (mm_r h a j.toNatClampNeg) :: r) h)
    | _ => none
  | .iastore => match st with
    | .int v :: .int j :: .ref a :: r => mm_if ((mm_s h a).1 = 20 ∧ ¬ a = 0 ∧ mm_in j (mm_s h a).2 = true) (mm_go (pc + 1) ls r (mm_pi h a j.toNatClampNeg v))
    | _ => none
  | .lastore => match st with
    | .long v :: .int j :: .ref a :: r => mm_if ((mm_s h a).1 = 21 ∧ mm_in j (mm_s h a).2 = true) (mm_go (pc + 1) ls r (mm_pl h a j.toNatClampNeg v))
    | _ => none
  | .bastore => match st with
    | .int v :: .int j :: .ref a :: r => mm_if ((mm_s h a).1 = 22 ∧ (v = 0 ∨ v = 1) ∧ mm_in j (mm_s h a).2 = true) (mm_go (pc + 1) ls r (mm_pi h a j.toNatClampNeg v))
    | _ => none
  | .aastore => match st with
    | .ref v :: .int j :: .ref a :: r => mm_if (((mm_s h a).1 = 23 ∧ (mm_s h v).1 = 5 ∨ (mm_s h a).1 = 24 ∧ (mm_s h v).1 = 6 ∨ (mm_s h a).1 = 25 ∧ (mm_s h v).1 = 4) ∧ mm_in j (mm_s h a).2 = true) (mm_go (pc + 1) ls r (mm_pr h a j.toNatClampNeg (some v)))
    | _ => none
  | .arraylength => match st with
    | .ref a :: r => mm_if (20 ≤ (mm_s h a).1 ∧ (mm_s h a).1 ≤ 26) (mm_go (pc + 1) ls (.int (nI (mm_s h a).2) :: r) h)
    | _ => none
  | .new k => match tb_ck y k with
    | some kd => mm_go (pc + 3) ls (.ref (mm_n h) :: st) (mm_nw h kd (tb_sl kd) (tb_sl kd))
    | none => none
  | .newarray ty => match st with
    | .int n :: r => mm_if (0 ≤ n ∧ n ≤ 1000 ∧ (ty = .int ∨ ty = .long ∨ ty = .boolean)) (mm_go (pc + 2) ls (.ref (mm_n h) :: r) (mm_nw h (if ty = .int then 20 else if ty = .long then 21 else 22) n.toNatClampNeg n.toNatClampNeg))
    | _ => none
  | .anewarray k => match st, tb_ck y k with
    | .int n :: r, some kd => mm_if (0 ≤ n ∧ n ≤ 1000 ∧ (kd = 5 ∨ kd = 6 ∨ kd = 4)) (mm_go (pc + 3) ls (.ref (mm_n h) :: r) (mm_nw h (if kd = 5 then 23 else if kd = 6 then 24 else 25) n.toNatClampNeg n.toNatClampNeg))
    | _, _ => none
  | .multianewarray k d => match st, tb_ck y k with
    | .int m :: .int n :: r, some kd => mm_if (0 ≤ n ∧ n ≤ 1000 ∧ 0 ≤ m ∧ m ≤ 1000 ∧ d = 2 ∧ kd = 26) (mm_go (pc + 4) ls (.ref (mm_n h) :: r) (mm_nw2 h 26 20 n.toNatClampNeg m.toNatClampNeg))
    | _, _ => none
  | .ireturn => match st with
    | .int v :: _ => mm_if (tb_rt y = 1 ∨ tb_rt y = 3 ∧ (v = 0 ∨ v = 1)) (some (.inr (.inr (.inl (some (.int v))))))
    | _ => none
  | .lreturn => match st with
    | .long v :: _ => mm_if (tb_rt y = 2) (some (.inr (.inr (.inl (some (.long v))))))
    | _ => none
  | .areturn => match st with
    | .ref v :: _ => mm_if (tb_rt y = 4) (some (.inr (.inr (.inl (some (.ref v))))))
    | .null :: _ => mm_if (tb_rt y = 4) (some (.inr (.inr (.inl (some .null)))))
    | _ => none
  | .return_ => mm_if (tb_rt y = 0) (some (.inr (.inr (.inl none))))
  | .athrow => match st with
    | .ref a :: _ => mm_if (30 ≤ (mm_s h a).1) (some (.inr (.inr (.inr a))))
    | _ => none
  | .invokestatic k => match tb_ca y k with
    | some z => mm_if (z < 1000 ∧ tb_sta z = true) (mm_call z st h)
    | none => none
  | .invokevirtual k => match tb_ca y k with
    | some z => mm_if (z < 1000 ∧ tb_sta z = false) (mm_callV z st h)
    | none => none
  | .invokespecial k => match tb_ca y k with
    | some z => if z = 1000 then (match st with
        | .ref _ :: r => mm_if (r.length ≤ 8) (mm_go (pc + 3) ls r h)
        | _ => none) else if 1000 < z then (match st with
        | .float _ :: .ref a :: r => mm_if ((mm_s h a).1 = z - 971 ∧ r.length ≤ 8) (mm_go (pc + 3) ls r h)
        | _ => none) else mm_if (tb_sta z = false) (mm_callI z st h)
    | none => none
  | _ => none
/-- fuel, depth, method, pc, variables, stack, heap: what the method comes to (an answer, or an exception's cell), and the heap -/
def mm_run : Nat → Nat → Nat → Nat → List Value → List Value → mm_H → Option ((Option Value ⊕ Nat) × mm_H)
  | 0, _, _, _, _, _, _ => none
  | n + 1, d, y, pc, ls, st, h =>
    match tb_cod y pc with
    | none => none
    | some q =>
      match mm_act y pc q.1 ls st h with
      | none => none
      | some (.inl g) => mm_run n d y g.1 g.2.1 g.2.2.1 g.2.2.2
      | some (.inr (.inl c)) =>
        match d with
        | 0 => none
        | d' + 1 =>
          match mm_run n d' c.1 0 (mm_ent c.1 c.2.1) [] h with
          | none => none
          | some (.inl v, h') => mm_run n (d' + 1) y (pc + 3) ls (v.toList ++ c.2.2) h'
          | some (.inr a, h') =>
            match mm_hnd y pc (mm_s h' a).1 with
            | none => some (.inr a, h')
            | some pc' => mm_run n (d' + 1) y pc' ls [.ref a] h'
      | some (.inr (.inr (.inl v))) => some (.inl v, h)
      | some (.inr (.inr (.inr a))) =>
        match mm_hnd y pc (mm_s h a).1 with
        | none => some (.inr a, h)
        | some pc' => mm_run n d y pc' ls [.ref a] h
end
section
/-! WHAT A RUN COMES TO: mm_wp, and a rule a kind of instruction -/
abbrev mm_Q : Type := (Option Value ⊕ Nat) → mm_H → Prop
def mm_wp (d y pc : Nat) (ls st : List Value) (h : mm_H) (Q : mm_Q) : Prop := ∃ n r h', mm_run n d y pc ls st h = some (r, h') ∧ Q r h'
theorem mm_fuel : ∀ n d y pc ls st h r, mm_run n d y pc ls st h = some r → mm_run (n + 1) d y pc ls st h = some r := by
  intro n
  induction n with
  | zero => intro d y pc ls st h r hr; simp [mm_run] at hr
  | succ n ih =>
    intro d y pc ls st h r hr
    rw [mm_run] at hr
    rw [mm_run]
    cases hc : tb_cod y pc with
    | none => simp [hc] at hr
    | some q =>
      simp only [hc] at hr ⊢
      cases ha : mm_act y pc q.1 ls st h with
      | none => simp [ha] at hr
      | some A =>
        simp only [ha] at hr ⊢
        rcases A with g | c | v | a
        · exact ih _ _ _ _ _ _ _ hr
        · cases d with
          | zero => simp at hr
          | succ d' =>
            simp only at hr ⊢
            cases h1 : mm_run n d' c.1 0 (mm_ent c.1 c.2.1) [] h with
            | none => simp [h1] at hr
            | some x =>
              simp only [h1] at hr
              simp only [ih _ _ _ _ _ _ _ h1]
              rcases x with ⟨v | a, h'⟩
              · exact ih _ _ _ _ _ _ _ hr
              · simp only at hr ⊢
                cases h2 : mm_hnd y pc (mm_s h' a).1 with
                | none => simpa [h2] using hr
                | some pc' => simp only [h2] at hr ⊢; exact ih _ _ _ _ _ _ _ hr
        · exact hr
        · simp only at hr ⊢
          cases h2 : mm_hnd y pc (mm_s h a).1 with
          | none => simpa [h2] using hr
          | some pc' => simp only [h2] at hr ⊢; exact ih _ _ _ _ _ _ _ hr
theorem mm_fuel' {n m d y pc : Nat} {ls st : List Value} {h : mm_H} {r : (Option Value ⊕ Nat) × mm_H} (hr : mm_run n d y pc ls st h = some r) (hm : n ≤ m) : mm_run m d y pc ls st h = some r := by
  obtain ⟨k, rfl⟩ := Nat.exists_eq_add_of_le hm
  clear hm
  induction k with
  | zero => exact hr
  | succ k ih => exact mm_fuel _ _ _ _ _ _ _ _ ih
theorem mm_deep : ∀ n d y pc ls st h r, mm_run n d y pc ls st h = some r → mm_run n (d + 1) y pc ls st h = some r := by
  intro n
  induction n with
  | zero => intro d y pc ls st h r hr; simp [mm_run] at hr
  | succ n ih =>
    intro d y pc ls st h r hr
    rw [mm_run] at hr
    rw [mm_run]
    cases hc : tb_cod y pc with
    | none => simp [hc] at hr
    | some q =>
      simp only [hc] at hr ⊢
      cases ha : mm_act y pc q.1 ls st h with
      | none => simp [ha] at hr
      | some A =>
        simp only [ha] at hr ⊢
        rcases A with g | c | v | a
        · exact ih _ _ _ _ _ _ _ hr
        · cases d with
          | zero => simp at hr
          | succ d' =>
            simp only at hr ⊢
            cases h1 : mm_run n d' c.1 0 (mm_ent c.1 c.2.1) [] h with
            | none => simp [h1] at hr
            | some x =>
              simp only [h1] at hr
              simp only [ih _ _ _ _ _ _ _ h1]
              rcases x with ⟨v | a, h'⟩
              · exact ih _ _ _ _ _ _ _ hr
              · simp only at hr ⊢
                cases h2 : mm_hnd y pc (mm_s h' a).1 with
                | none => simpa [h2] using hr
                | some pc' => simp only [h2] at hr ⊢; exact ih _ _ _ _ _ _ _ hr
        · exact hr
        · simp only at hr ⊢
          cases h2 : mm_hnd y pc (mm_s h a).1 with
          | none => simpa [h2] using hr
          | some pc' => simp only [h2] at hr ⊢; exact ih _ _ _ _ _ _ _ hr
section
variable {d y pc pc' len k kd p z : Nat} {i : ClassFile.Instr} {ls ls' st st' r : List Value} {h h' : mm_H} {Q Q' : mm_Q}
theorem mm_wp.imp (H : mm_wp d y pc ls st h Q) (hQ : ∀ r h', Q r h' → Q' r h') : mm_wp d y pc ls st h Q' := by
  obtain ⟨n, r, h', e, q⟩ := H
  exact ⟨n, r, h', e, hQ _ _ q⟩
theorem mm_wp.deep (H : mm_wp d y pc ls st h Q) {d' : Nat} (hd : d ≤ d') : mm_wp d' y pc ls st h Q := by
  obtain ⟨k, rfl⟩ := Nat.exists_eq_add_of_le hd
  clear hd
  induction k with
  | zero => exact H
  | succ k ih =>
    obtain ⟨n, r, h', e, q⟩ := ih
    exact ⟨n, r, h', mm_deep _ _ _ _ _ _ _ _ e, q⟩
theorem wp_go (hc : tb_cod y pc = some (i, len)) (ha : mm_act y pc i ls st h = mm_go pc' ls' st' h') : mm_wp d y pc ls st h Q ↔ mm_wp d y pc' ls' st' h' Q := by
  constructor
  · rintro ⟨n, r, hh, e, q⟩
    cases n with
    | zero => simp [mm_run] at e
    | succ n =>
      rw [mm_run] at e
      simp only [hc, ha, mm_go] at e
      exact ⟨n, r, hh, e, q⟩
  · rintro ⟨n, r, hh, e, q⟩
    refine ⟨n + 1, r, hh, ?_, q⟩
    rw [mm_run]
    simp only [hc, ha, mm_go]
    exact e
theorem wp_none (hc : tb_cod y pc = some (i, len)) (ha : mm_act y pc i ls st h = none) : mm_wp d y pc ls st h Q ↔ False := by
  constructor
  · rintro ⟨n, r, hh, e, q⟩
    cases n with
    | zero => simp [mm_run] at e
    | succ n =>
      rw [mm_run] at e
      simp [hc, ha] at e
  · exact False.elim
theorem wp_if {c : Prop} (dc : Decidable c) (hc : tb_cod y pc = some (i, len)) (ha : mm_act y pc i ls st h = @mm_if c dc (mm_go pc' ls' st' h')) : mm_wp d y pc ls st h Q ↔ c ∧ mm_wp d y pc' ls' st' h' Q := by
  by_cases hcc : c
  · rw [wp_go hc (by rw [ha]; exact if_pos hcc)]
    exact ⟨fun H => ⟨hcc, H⟩, fun H => H.2⟩
  · rw [wp_none hc (by rw [ha]; exact if_neg hcc)]
    exact ⟨False.elim, fun H => hcc H.1⟩
theorem wp_br {c : Prop} {dc : Decidable c} {t f : Nat} (hc : tb_cod y pc = some (i, len)) (ha : mm_act y pc i ls st h = mm_go (@ite _ c dc t f) ls' st' h') : mm_wp d y pc ls st h Q ↔ @ite _ c dc (mm_wp d y t ls' st' h' Q) (mm_wp d y f ls' st' h' Q) := by
  rw [wp_go hc ha]
  split <;> rfl
theorem wp_ret {v : Option Value} (hc : tb_cod y pc = some (i, len)) (ha : mm_act y pc i ls st h = some (.inr (.inr (.inl v)))) : mm_wp d y pc ls st h Q ↔ Q (.inl v) h := by
  constructor
  · rintro ⟨n, r, hh, e, q⟩
    cases n with
    | zero => simp [mm_run] at e
    | succ n =>
      rw [mm_run] at e
      simp only [hc, ha, Option.some.injEq, Prod.mk.injEq] at e
      obtain ⟨rfl, rfl⟩ := e
      exact q
  · intro q
    refine ⟨1, _, _, ?_, q⟩
    rw [mm_run]
    simp only [hc, ha]
theorem wp_retif {c : Prop} (dc : Decidable c) {v : Option Value} (hc : tb_cod y pc = some (i, len)) (ha : mm_act y pc i ls st h = @mm_if c dc (some (.inr (.inr (.inl v))))) : mm_wp d y pc ls st h Q ↔ c ∧ Q (.inl v) h := by
  by_cases hcc : c
  · rw [wp_ret hc (by rw [ha]; exact if_pos hcc)]
    exact ⟨fun H => ⟨hcc, H⟩, fun H => H.2⟩
  · rw [wp_none hc (by rw [ha]; exact if_neg hcc)]
    exact ⟨False.elim, fun H => hcc H.1⟩
/-- what comes behind a call -/
def mm_bk (d y pc : Nat) (ls rest : List Value) (Q : mm_Q) : mm_Q := fun r h' => match r with
  | .inl v => mm_wp d y (pc + 3) ls (v.toList ++ rest) h' Q
  | .inr a => match mm_hnd y pc (mm_s h' a).1 with
    | none => Q (.inr a) h'
    | some pc' => mm_wp d y pc' ls [.ref a] h' Q
theorem wp_call {as rest : List Value} (hc : tb_cod y pc = some (i, len)) (ha : mm_act y pc i ls st h = some (.inr (.inl (z, as, rest)))) : mm_wp (d + 1) y pc ls st h Q ↔ mm_wp d z 0 (mm_ent z as) [] h (mm_bk (d + 1) y pc ls rest Q) := by
  constructor
  · rintro ⟨n, r, hh, e, q⟩
    cases n with
    | zero => simp [mm_run] at e
    | succ n =>
      rw [mm_run] at e
      simp only [hc, ha] at e
      cases h1 : mm_run n d z 0 (mm_ent z as) [] h with
      | none => simp [h1] at e
      | some x =>
        simp only [h1] at e
        rcases x with ⟨v | a, h'⟩
        · exact ⟨n, _, _, h1, n, r, hh, e, q⟩
        · refine ⟨n, _, _, h1, ?_⟩
          simp only at e
          simp only [mm_bk]
          cases h2 : mm_hnd y pc (mm_s h' a).1 with
          | none =>
            simp only [h2, Option.some.injEq, Prod.mk.injEq] at e
            obtain ⟨rfl, rfl⟩ := e
            exact q
          | some pc' =>
            simp only [h2] at e
            exact ⟨n, r, hh, e, q⟩
  · rintro ⟨n, x, h', h1, H⟩
    rcases x with v | a
    · obtain ⟨m, r, hh, e, q⟩ := H
      refine ⟨max n m + 1, r, hh, ?_, q⟩
      rw [mm_run]
      simp only [hc, ha, mm_fuel' h1 (Nat.le_max_left n m)]
      exact mm_fuel' e (Nat.le_max_right n m)
    · simp only [mm_bk] at H
      cases h2 : mm_hnd y pc (mm_s h' a).1 with
      | none =>
        simp only [h2] at H
        refine ⟨n + 1, _, _, ?_, H⟩
        rw [mm_run]
        simp only [hc, ha, h1, h2]
      | some pc' =>
        simp only [h2] at H
        obtain ⟨m, r, hh, e, q⟩ := H
        refine ⟨max n m + 1, r, hh, ?_, q⟩
        rw [mm_run]
        simp only [hc, ha, mm_fuel' h1 (Nat.le_max_left n m), h2]
        exact mm_fuel' e (Nat.le_max_right n m)
theorem wp_callif {c : Prop} (dc : Decidable c) {as rest : List Value} (hc : tb_cod y pc = some (i, len)) (ha : mm_act y pc i ls st h = @mm_if c dc (some (.inr (.inl (z, as, rest))))) : mm_wp (d + 1) y pc ls st h Q ↔ c ∧ mm_wp d z 0 (mm_ent z as) [] h (mm_bk (d + 1) y pc ls rest Q) := by
  by_cases hcc : c
  · rw [wp_call hc (by rw [ha]; exact if_pos hcc)]
    exact ⟨fun H => ⟨hcc, H⟩, fun H => H.2⟩
  · rw [wp_none hc (by rw [ha]; exact if_neg hcc)]
    exact ⟨False.elim, fun H => hcc H.1⟩
theorem wp_thr {a : Nat} (hc : tb_cod y pc = some (i, len)) (ha : mm_act y pc i ls st h = mm_if (30 ≤ (mm_s h a).1) (some (.inr (.inr (.inr a))))) (hh : tb_han.getD y [] = []) : mm_wp d y pc ls st h Q ↔ 30 ≤ (mm_s h a).1 ∧ Q (.inr a) h := by
  have hn : mm_hnd y pc (mm_s h a).1 = none := by simp only [mm_hnd, hh]; rfl
  by_cases hcc : 30 ≤ (mm_s h a).1
  · have ha' : mm_act y pc i ls st h = some (.inr (.inr (.inr a))) := by rw [ha]; exact if_pos hcc
    constructor
    · rintro ⟨n, r, hh, e, q⟩
      cases n with
      | zero => simp [mm_run] at e
      | succ n =>
        rw [mm_run] at e
        simp only [hc, ha', hn, Option.some.injEq, Prod.mk.injEq] at e
        obtain ⟨rfl, rfl⟩ := e
        exact ⟨hcc, q⟩
    · intro q
      refine ⟨1, _, _, ?_, q.2⟩
      rw [mm_run]
      simp only [hc, ha', hn]
  · rw [wp_none hc (by rw [ha]; exact if_neg hcc)]
    exact ⟨False.elim, fun H => hcc H.1⟩
theorem mm_bk_v {rest : List Value} {v : Value} : mm_bk d y pc ls rest Q (.inl (some v)) h ↔ mm_wp d y (pc + 3) ls (v :: rest) h Q := Iff.rfl
theorem mm_bk_n {rest : List Value} : mm_bk d y pc ls rest Q (.inl none) h ↔ mm_wp d y (pc + 3) ls rest h Q := Iff.rfl
theorem mm_bk_x {rest : List Value} {a : Nat} : mm_bk d y pc ls rest Q (.inr a) h ↔ (match mm_hnd y pc (mm_s h a).1 with | none => Q (.inr a) h | some pc' => mm_wp d y pc' ls [.ref a] h Q) := Iff.rfl
end
end
section
/-! A RULE AN INSTRUCTION, over the tables' entries -/
theorem mm_act_e {y pc : Nat} {i : ClassFile.Instr} {ls st : List Value} {h : mm_H} {x y' : Option mm_A} (e : mm_act y pc i ls st h = x) (e2 : x = y') : mm_act y pc i ls st h = y' := e.trans e2
section
variable {d y pc k kd p z t f len : Nat} {ls ls' st r : List Value} {h : mm_H} {Q : mm_Q} {a b : Nat} {x x2 : Int32} {w w2 : Int64} {n off : Int}
theorem wp_brc {P : Prop} [Decidable P] {bb : Bool} {i : ClassFile.Instr} {st' : List Value} (hc : tb_cod y pc = some (i, len)) (ha : mm_act y pc i ls st h = mm_go (if bb = true then t else f) ls st' h) (hb : bb = decide P) : mm_wp d y pc ls st h Q ↔ if P then mm_wp d y t ls st' h Q else mm_wp d y f ls st' h Q := by
  subst hb
  rw [wp_go hc ha]
  by_cases hP : P
  · simp [hP]
  · simp [hP]
theorem wp_iconst {v : Int32} (hc : tb_cod y pc = some (.iconst n, 1)) (hv : Int32.ofInt n = v) : mm_wp d y pc ls st h Q ↔ mm_wp d y (pc + 1) ls (.int v :: st) h Q := by subst hv; exact wp_go hc rfl
theorem wp_bipush {v : Int32} (hc : tb_cod y pc = some (.bipush n, 2)) (hv : (Int8.ofInt n).toInt32 = v) : mm_wp d y pc ls st h Q ↔ mm_wp d y (pc + 2) ls (.int v :: st) h Q := by subst hv; exact wp_go hc rfl
theorem wp_sipush {v : Int32} (hc : tb_cod y pc = some (.sipush n, 3)) (hv : (Int16.ofInt n).toInt32 = v) : mm_wp d y pc ls st h Q ↔ mm_wp d y (pc + 3) ls (.int v :: st) h Q := by subst hv; exact wp_go hc rfl
theorem wp_lconst {v : Int64} {m : Fin 2} (hc : tb_cod y pc = some (.lconst m, 1)) (hv : Int64.ofNat (m : Nat) = v) : mm_wp d y pc ls st h Q ↔ mm_wp d y (pc + 1) ls (.long v :: st) h Q := by subst hv; exact wp_go hc rfl
theorem wp_anull (hc : tb_cod y pc = some (.aconst_null, 1)) : mm_wp d y pc ls st h Q ↔ mm_wp d y (pc + 1) ls (.null :: st) h Q := wp_go hc rfl
theorem wp_ldcI {v : Int32} (hc : tb_cod y pc = some (.ldc k, 2)) (hv : tb_ci y k = some v) : mm_wp d y pc ls st h Q ↔ mm_wp d y (pc + 2) ls (.int v :: st) h Q := wp_go hc (by simp only [mm_act, hv])
theorem wp_ldcS (hc : tb_cod y pc = some (.ldc k, 2)) (hv : tb_ci y k = none) (hs : tb_cs y k = some z) : mm_wp d y pc ls st h Q ↔ mm_wp d y (pc + 2) ls (.float (UInt32.ofNat z) :: st) h Q := wp_go hc (by simp only [mm_act, hv, hs])
theorem wp_ldc2 {v : Int64} (hc : tb_cod y pc = some (.ldc2_w k, 3)) (hv : tb_cl2 y k = some v) : mm_wp d y pc ls st h Q ↔ mm_wp d y (pc + 3) ls (.long v :: st) h Q := wp_go hc (by simp only [mm_act, hv])
theorem wp_iload (hc : tb_cod y pc = some (.iload k, 2)) (hl : ls[k]? = some (.int x)) : mm_wp d y pc ls st h Q ↔ mm_wp d y (pc + 2) ls (.int x :: st) h Q := wp_go hc (by simp only [mm_act, hl])
theorem wp_iload_n {m : Fin 4} (hc : tb_cod y pc = some (.iload_n m, 1)) (hl : ls[(m : Nat)]? = some (.int x)) : mm_wp d y pc ls st h Q ↔ mm_wp d y (pc + 1) ls (.int x :: st) h Q := wp_go hc (by simp only [mm_act, hl])
theorem wp_lload (hc : tb_cod y pc = some (.lload k, 2)) (hl : ls[k]? = some (.long w)) : mm_wp d y pc ls st h Q ↔ mm_wp d y (pc + 2) ls (.long w :: st) h Q := wp_go hc (by simp only [mm_act, hl])
theorem wp_lload_n {m : Fin 4} (hc : tb_cod y pc = some (.lload_n m, 1)) (hl : ls[(m : Nat)]? = some (.long w)) : mm_wp d y pc ls st h Q ↔ mm_wp d y (pc + 1) ls (.long w :: st) h Q := wp_go hc (by simp only [mm_act, hl])
theorem wp_aload (hc : tb_cod y pc = some (.aload k, 2)) (o : Option Nat) (hl : ls[k]? = some (mm_o o)) : mm_wp d y pc ls st h Q ↔ mm_wp d y (pc + 2) ls (mm_o o :: st) h Q := wp_go hc (by cases o <;> simp only [mm_act, hl, mm_o])
theorem wp_aload_n {m : Fin 4} (hc : tb_cod y pc = some (.aload_n m, 1)) (o : Option Nat) (hl : ls[(m : Nat)]? = some (mm_o o)) : mm_wp d y pc ls st h Q ↔ mm_wp d y (pc + 1) ls (mm_o o :: st) h Q := wp_go hc (by cases o <;> simp only [mm_act, hl, mm_o])
theorem wp_aloadR (hc : tb_cod y pc = some (.aload k, 2)) (hl : ls[k]? = some (.ref a)) : mm_wp d y pc ls st h Q ↔ mm_wp d y (pc + 2) ls (.ref a :: st) h Q := wp_go hc (by simp only [mm_act, hl])
theorem wp_aloadR_n {m : Fin 4} (hc : tb_cod y pc = some (.aload_n m, 1)) (hl : ls[(m : Nat)]? = some (.ref a)) : mm_wp d y pc ls st h Q ↔ mm_wp d y (pc + 1) ls (.ref a :: st) h Q := wp_go hc (by simp only [mm_act, hl])
theorem wp_istore (hc : tb_cod y pc = some (.istore k, 2)) (hl : mm_set y ls k (.int x) = some ls') : mm_wp d y pc ls (.int x :: r) h Q ↔ mm_wp d y (pc + 2) ls' r h Q := wp_go hc (by simp only [mm_act, hl]; rfl)
theorem wp_istore_n {m : Fin 4} (hc : tb_cod y pc = some (.istore_n m, 1)) (hl : mm_set y ls m (.int x) = some ls') : mm_wp d y pc ls (.int x :: r) h Q ↔ mm_wp d y (pc + 1) ls' r h Q := wp_go hc (by simp only [mm_act, hl]; rfl)
theorem wp_lstore (hc : tb_cod y pc = some (.lstore k, 2)) (hl : mm_set2 y ls k (.long w) = some ls') : mm_wp d y pc ls (.long w :: r) h Q ↔ mm_wp d y (pc + 2) ls' r h Q := wp_go hc (by simp only [mm_act, hl]; rfl)
theorem wp_lstore_n {m : Fin 4} (hc : tb_cod y pc = some (.lstore_n m, 1)) (hl : mm_set2 y ls m (.long w) = some ls') : mm_wp d y pc ls (.long w :: r) h Q ↔ mm_wp d y (pc + 1) ls' r h Q := wp_go hc (by simp only [mm_act, hl]; rfl)
theorem wp_astore (hc : tb_cod y pc = some (.astore k, 2)) (o : Option Nat) (hl : mm_set y ls k (mm_o o) = some ls') : mm_wp d y pc ls (mm_o o :: r) h Q ↔ mm_wp d y (pc + 2) ls' r h Q := wp_go hc (by cases o <;> simp only [mm_o] at hl ⊢ <;> simp only [mm_act, hl] <;> rfl)
theorem wp_astore_n {m : Fin 4} (hc : tb_cod y pc = some (.astore_n m, 1)) (o : Option Nat) (hl : mm_set y ls m (mm_o o) = some ls') : mm_wp d y pc ls (mm_o o :: r) h Q ↔ mm_wp d y (pc + 1) ls' r h Q := wp_go hc (by cases o <;> simp only [mm_o] at hl ⊢ <;> simp only [mm_act, hl] <;> rfl)
theorem wp_astoreR (hc : tb_cod y pc = some (.astore k, 2)) (hl : mm_set y ls k (.ref a) = some ls') : mm_wp d y pc ls (.ref a :: r) h Q ↔ mm_wp d y (pc + 2) ls' r h Q := wp_go hc (by simp only [mm_act, hl]; rfl)
theorem wp_astoreR_n {m : Fin 4} (hc : tb_cod y pc = some (.astore_n m, 1)) (hl : mm_set y ls m (.ref a) = some ls') : mm_wp d y pc ls (.ref a :: r) h Q ↔ mm_wp d y (pc + 1) ls' r h Q := wp_go hc (by simp only [mm_act, hl]; rfl)
theorem wp_iinc {v : Int32} (hc : tb_cod y pc = some (.iinc k n, 3)) (hx : ls[k]? = some (.int x)) (hv : Int32.ofInt n = v) (hl : mm_set y ls k (.int (x + v)) = some ls') : mm_wp d y pc ls st h Q ↔ mm_wp d y (pc + 3) ls' st h Q := by subst hv; exact wp_go hc (by simp only [mm_act, hx, hl]; rfl)
theorem wp_iadd (hc : tb_cod y pc = some (.iadd, 1)) : mm_wp d y pc ls (.int x2 :: .int x :: r) h Q ↔ mm_wp d y (pc + 1) ls (.int (x + x2) :: r) h Q := wp_go hc rfl
theorem wp_isub (hc : tb_cod y pc = some (.isub, 1)) : mm_wp d y pc ls (.int x2 :: .int x :: r) h Q ↔ mm_wp d y (pc + 1) ls (.int (x - x2) :: r) h Q := wp_go hc rfl
theorem wp_imul (hc : tb_cod y pc = some (.imul, 1)) : mm_wp d y pc ls (.int x2 :: .int x :: r) h Q ↔ mm_wp d y (pc + 1) ls (.int (x * x2) :: r) h Q := wp_go hc rfl
theorem wp_iand (hc : tb_cod y pc = some (.iand, 1)) : mm_wp d y pc ls (.int x2 :: .int x :: r) h Q ↔ mm_wp d y (pc + 1) ls (.int (x &&& x2) :: r) h Q := wp_go hc rfl
theorem wp_idiv (hc : tb_cod y pc = some (.idiv, 1)) : mm_wp d y pc ls (.int x2 :: .int x :: r) h Q ↔ ¬ x2 = 0 ∧ mm_wp d y (pc + 1) ls (.int (x / x2) :: r) h Q := wp_if _ hc rfl
theorem wp_irem (hc : tb_cod y pc = some (.irem, 1)) : mm_wp d y pc ls (.int x2 :: .int x :: r) h Q ↔ ¬ x2 = 0 ∧ mm_wp d y (pc + 1) ls (.int (x - x / x2 * x2) :: r) h Q := wp_if _ hc rfl
theorem wp_ladd (hc : tb_cod y pc = some (.ladd, 1)) : mm_wp d y pc ls (.long w2 :: .long w :: r) h Q ↔ mm_wp d y (pc + 1) ls (.long (w + w2) :: r) h Q := wp_go hc rfl
theorem wp_lmul (hc : tb_cod y pc = some (.lmul, 1)) : mm_wp d y pc ls (.long w2 :: .long w :: r) h Q ↔ mm_wp d y (pc + 1) ls (.long (w * w2) :: r) h Q := wp_go hc rfl
theorem wp_ldiv (hc : tb_cod y pc = some (.ldiv, 1)) : mm_wp d y pc ls (.long w2 :: .long w :: r) h Q ↔ ¬ w2 = 0 ∧ mm_wp d y (pc + 1) ls (.long (w / w2) :: r) h Q := wp_if _ hc rfl
theorem wp_lrem (hc : tb_cod y pc = some (.lrem, 1)) : mm_wp d y pc ls (.long w2 :: .long w :: r) h Q ↔ ¬ w2 = 0 ∧ mm_wp d y (pc + 1) ls (.long (w - w / w2 * w2) :: r) h Q := wp_if _ hc rfl
theorem wp_lneg (hc : tb_cod y pc = some (.lneg, 1)) : mm_wp d y pc ls (.long w :: r) h Q ↔ mm_wp d y (pc + 1) ls (.long (-w) :: r) h Q := wp_go hc rfl
theorem wp_i2l (hc : tb_cod y pc = some (.i2l, 1)) : mm_wp d y pc ls (.int x :: r) h Q ↔ mm_wp d y (pc + 1) ls (.long x.toInt64 :: r) h Q := wp_go hc rfl
theorem wp_l2i (hc : tb_cod y pc = some (.l2i, 1)) : mm_wp d y pc ls (.long w :: r) h Q ↔ mm_wp d y (pc + 1) ls (.int w.toInt32 :: r) h Q := wp_go hc rfl
theorem wp_lcmp (hc : tb_cod y pc = some (.lcmp, 1)) : mm_wp d y pc ls (.long w2 :: .long w :: r) h Q ↔ mm_wp d y (pc + 1) ls (.int (if w2 < w then 1 else if w = w2 then 0 else -1) :: r) h Q := wp_go hc rfl
theorem wp_dupI (hc : tb_cod y pc = some (.dup, 1)) : mm_wp d y pc ls (.int x :: r) h Q ↔ mm_wp d y (pc + 1) ls (.int x :: .int x :: r) h Q := wp_go hc rfl
theorem wp_dupR (hc : tb_cod y pc = some (.dup, 1)) : mm_wp d y pc ls (.ref a :: r) h Q ↔ mm_wp d y (pc + 1) ls (.ref a :: .ref a :: r) h Q := wp_go hc rfl
theorem wp_popI (hc : tb_cod y pc = some (.pop, 1)) : mm_wp d y pc ls (.int x :: r) h Q ↔ mm_wp d y (pc + 1) ls r h Q := wp_go hc rfl
theorem wp_popR (hc : tb_cod y pc = some (.pop, 1)) : mm_wp d y pc ls (.ref a :: r) h Q ↔ mm_wp d y (pc + 1) ls r h Q := wp_go hc rfl
theorem wp_dup2 (hc : tb_cod y pc = some (.dup2, 1)) : mm_wp d y pc ls (.int x :: .ref a :: r) h Q ↔ mm_wp d y (pc + 1) ls (.int x :: .ref a :: .int x :: .ref a :: r) h Q := wp_go hc rfl
theorem wp_ifeq (hc : tb_cod y pc = some (.ifCond .eq off, 3)) (ht : mm_t pc off = t) : mm_wp d y pc ls (.int x :: r) h Q ↔ if x = 0 then mm_wp d y t ls r h Q else mm_wp d y (pc + 3) ls r h Q := by subst ht; exact wp_brc hc rfl rfl
theorem wp_ifne (hc : tb_cod y pc = some (.ifCond .ne off, 3)) (ht : mm_t pc off = t) : mm_wp d y pc ls (.int x :: r) h Q ↔ if x = 0 then mm_wp d y (pc + 3) ls r h Q else mm_wp d y t ls r h Q := by
  subst ht
  rw [wp_brc (P := ¬ x = 0) hc rfl rfl]
  by_cases hx : x = 0 <;> simp [hx]
theorem wp_iflt (hc : tb_cod y pc = some (.ifCond .lt off, 3)) (ht : mm_t pc off = t) : mm_wp d y pc ls (.int x :: r) h Q ↔ if x < 0 then mm_wp d y t ls r h Q else mm_wp d y (pc + 3) ls r h Q := by subst ht; exact wp_brc hc rfl rfl
theorem wp_ifge (hc : tb_cod y pc = some (.ifCond .ge off, 3)) (ht : mm_t pc off = t) : mm_wp d y pc ls (.int x :: r) h Q ↔ if 0 ≤ x then mm_wp d y t ls r h Q else mm_wp d y (pc + 3) ls r h Q := by subst ht; exact wp_brc hc rfl rfl
theorem wp_ifgt (hc : tb_cod y pc = some (.ifCond .gt off, 3)) (ht : mm_t pc off = t) : mm_wp d y pc ls (.int x :: r) h Q ↔ if 0 < x then mm_wp d y t ls r h Q else mm_wp d y (pc + 3) ls r h Q := by subst ht; exact wp_brc hc rfl rfl
theorem wp_ifle (hc : tb_cod y pc = some (.ifCond .le off, 3)) (ht : mm_t pc off = t) : mm_wp d y pc ls (.int x :: r) h Q ↔ if x ≤ 0 then mm_wp d y t ls r h Q else mm_wp d y (pc + 3) ls r h Q := by subst ht; exact wp_brc hc rfl rfl
theorem wp_icmpeq (hc : tb_cod y pc = some (.if_icmp .eq off, 3)) (ht : mm_t pc off = t) : mm_wp d y pc ls (.int x2 :: .int x :: r) h Q ↔ if x = x2 then mm_wp d y t ls r h Q else mm_wp d y (pc + 3) ls r h Q := by subst ht; exact wp_brc hc rfl rfl
theorem wp_icmpne (hc : tb_cod y pc = some (.if_icmp .ne off, 3)) (ht : mm_t pc off = t) : mm_wp d y pc ls (.int x2 :: .int x :: r) h Q ↔ if x = x2 then mm_wp d y (pc + 3) ls r h Q else mm_wp d y t ls r h Q := by
  subst ht
  rw [wp_brc (P := ¬ x = x2) hc rfl rfl]
  by_cases hx : x = x2 <;> simp [hx]
theorem wp_icmplt (hc : tb_cod y pc = some (.if_icmp .lt off, 3)) (ht : mm_t pc off = t) : mm_wp d y pc ls (.int x2 :: .int x :: r) h Q ↔ if x < x2 then mm_wp d y t ls r h Q else mm_wp d y (pc + 3) ls r h Q := by subst ht; exact wp_brc hc rfl rfl
theorem wp_icmpge (hc : tb_cod y pc = some (.if_icmp .ge off, 3)) (ht : mm_t pc off = t) : mm_wp d y pc ls (.int x2 :: .int x :: r) h Q ↔ if x2 ≤ x then mm_wp d y t ls r h Q else mm_wp d y (pc + 3) ls r h Q := by subst ht; exact wp_brc hc rfl rfl
theorem wp_icmpgt (hc : tb_cod y pc = some (.if_icmp .gt off, 3)) (ht : mm_t pc off = t) : mm_wp d y pc ls (.int x2 :: .int x :: r) h Q ↔ if x2 < x then mm_wp d y t ls r h Q else mm_wp d y (pc + 3) ls r h Q := by subst ht; exact wp_brc hc rfl rfl
theorem wp_icmple (hc : tb_cod y pc = some (.if_icmp .le off, 3)) (ht : mm_t pc off = t) : mm_wp d y pc ls (.int x2 :: .int x :: r) h Q ↔ if x ≤ x2 then mm_wp d y t ls r h Q else mm_wp d y (pc + 3) ls r h Q := by subst ht; exact wp_brc hc rfl rfl
theorem wp_ifnull (hc : tb_cod y pc = some (.ifnull off, 3)) (ht : mm_t pc off = t) (o : Option Nat) : mm_wp d y pc ls (mm_o o :: r) h Q ↔ if o = none then mm_wp d y t ls r h Q else mm_wp d y (pc + 3) ls r h Q := by
  subst ht
  cases o
  · exact wp_go hc rfl
  · exact wp_go hc rfl
theorem wp_ifnonnull (hc : tb_cod y pc = some (.ifnonnull off, 3)) (ht : mm_t pc off = t) (o : Option Nat) : mm_wp d y pc ls (mm_o o :: r) h Q ↔ if o = none then mm_wp d y (pc + 3) ls r h Q else mm_wp d y t ls r h Q := by
  subst ht
  cases o
  · exact wp_go hc rfl
  · exact wp_go hc rfl
theorem wp_goto (hc : tb_cod y pc = some (.goto off, 3)) (ht : mm_t pc off = t) : mm_wp d y pc ls st h Q ↔ mm_wp d y t ls st h Q := by subst ht; exact wp_go hc rfl
theorem wp_tabOut {dd lo hi : Int} {offs : Array Int} (hc : tb_cod y pc = some (.tableswitch dd lo hi offs, len)) (hx : x.toInt < lo ∨ hi < x.toInt) (ht : mm_t pc dd = t) : mm_wp d y pc ls (.int x :: r) h Q ↔ mm_wp d y t ls r h Q := by
  subst ht
  exact wp_go hc (by simp only [mm_act]; rw [if_pos hx])
theorem wp_tabIn {dd lo hi : Int} {offs : Array Int} (hc : tb_cod y pc = some (.tableswitch dd lo hi offs, len)) (hx : ¬ (x.toInt < lo ∨ hi < x.toInt)) (ht : mm_t pc (offs.toList.getD (x.toInt - lo).toNat 0) = t) : mm_wp d y pc ls (.int x :: r) h Q ↔ mm_wp d y t ls r h Q := by
  subst ht
  exact wp_go hc (by simp only [mm_act]; rw [if_neg hx])
theorem wp_getI {ty : Nat} (hc : tb_cod y pc = some (.getfield k, 3)) (hf : tb_fl y k = some (kd, p, ty)) (h1 : ¬ ty = 1) (h2 : ¬ ty = 2) : mm_wp d y pc ls (.ref a :: r) h Q ↔ (mm_s h a).1 = kd ∧ mm_wp d y (pc + 3) ls (.int (mm_i h a p) :: r) h Q := wp_if inferInstance hc (by simp only [mm_act, hf, h1, h2, if_false])
theorem wp_getL (hc : tb_cod y pc = some (.getfield k, 3)) (hf : tb_fl y k = some (kd, p, 1)) : mm_wp d y pc ls (.ref a :: r) h Q ↔ (mm_s h a).1 = kd ∧ mm_wp d y (pc + 3) ls (.long (mm_l h a p) :: r) h Q := wp_if inferInstance hc (by simp only [mm_act, hf, if_true])
theorem wp_getR (hc : tb_cod y pc = some (.getfield k, 3)) (hf : tb_fl y k = some (kd, p, 2)) : mm_wp d y pc ls (.ref a :: r) h Q ↔ (mm_s h a).1 = kd ∧ mm_wp d y (pc + 3) ls (mm_o (mm_r h a p) :: r) h Q := wp_if inferInstance hc (by simp [mm_act, hf])
theorem wp_putI (hc : tb_cod y pc = some (.putfield k, 3)) (hf : tb_fl y k = some (kd, p, 0)) : mm_wp d y pc ls (.int x :: .ref a :: r) h Q ↔ (mm_s h a).1 = kd ∧ mm_wp d y (pc + 3) ls r (mm_pi h a p x) Q := by
  rw [wp_if (c := (mm_s h a).1 = kd ∧ ((0 : Nat) = 0 ∨ (0 : Nat) = 3 ∧ (x = 0 ∨ x = 1))) (pc' := pc + 3) (ls' := ls) (st' := r) (h' := mm_pi h a p x) inferInstance hc (by simp only [mm_act, hf])]
  simp
theorem wp_putZ (hc : tb_cod y pc = some (.putfield k, 3)) (hf : tb_fl y k = some (kd, p, 3)) : mm_wp d y pc ls (.int x :: .ref a :: r) h Q ↔ (mm_s h a).1 = kd ∧ (x = 0 ∨ x = 1) ∧ mm_wp d y (pc + 3) ls r (mm_pi h a p x) Q := by
  rw [wp_if (c := (mm_s h a).1 = kd ∧ ((3 : Nat) = 0 ∨ (3 : Nat) = 3 ∧ (x = 0 ∨ x = 1))) (pc' := pc + 3) (ls' := ls) (st' := r) (h' := mm_pi h a p x) inferInstance hc (by simp only [mm_act, hf])]
  simp [and_assoc]
theorem wp_putL (hc : tb_cod y pc = some (.putfield k, 3)) (hf : tb_fl y k = some (kd, p, 1)) : mm_wp d y pc ls (.long w :: .ref a :: r) h Q ↔ (mm_s h a).1 = kd ∧ mm_wp d y (pc + 3) ls r (mm_pl h a p w) Q := by
  rw [wp_if (c := (mm_s h a).1 = kd ∧ (1 : Nat) = 1) (pc' := pc + 3) (ls' := ls) (st' := r) (h' := mm_pl h a p w) inferInstance hc (by simp only [mm_act, hf])]
  simp
theorem wp_putR (hc : tb_cod y pc = some (.putfield k, 3)) (hf : tb_fl y k = some (kd, p, 2)) : mm_wp d y pc ls (.ref b :: .ref a :: r) h Q ↔ (mm_s h a).1 = kd ∧ mm_wp d y (pc + 3) ls r (mm_pr h a p (some b)) Q := by
  rw [wp_if (c := (mm_s h a).1 = kd ∧ (2 : Nat) = 2) (pc' := pc + 3) (ls' := ls) (st' := r) (h' := mm_pr h a p (some b)) inferInstance hc (by simp only [mm_act, hf])]
  simp
theorem mm_inI {j : Int32} {n : Nat} : mm_in j n = true ↔ 0 ≤ j.toInt ∧ j.toInt < n := by
  simp only [mm_in, Bool.and_eq_true, decide_eq_true_eq, Int32.le_iff_toInt_le]
  have h0 : (0 : Int32).toInt = 0 := rfl
  rw [h0]
  constructor
  · rintro ⟨h1, h2⟩
    refine ⟨h1, ?_⟩
    have : j.toNatClampNeg = j.toInt.toNat := rfl
    omega
  · rintro ⟨h1, h2⟩
    refine ⟨h1, ?_⟩
    have : j.toNatClampNeg = j.toInt.toNat := rfl
    omega
theorem wp_iaload (hc : tb_cod y pc = some (.iaload, 1)) : mm_wp d y pc ls (.int x :: .ref a :: r) h Q ↔ ((mm_s h a).1 = 20 ∧ mm_in x (mm_s h a).2 = true) ∧ mm_wp d y (pc + 1) ls (.int (mm_i h a x.toNatClampNeg) :: r) h Q := wp_if _ hc rfl
theorem wp_laload (hc : tb_cod y pc = some (.laload, 1)) : mm_wp d y pc ls (.int x :: .ref a :: r) h Q ↔ ((mm_s h a).1 = 21 ∧ mm_in x (mm_s h a).2 = true) ∧ mm_wp d y (pc + 1) ls (.long (mm_l h a x.toNatClampNeg) :: r) h Q := wp_if _ hc rfl
theorem wp_baload (hc : tb_cod y pc = some (.baload, 1)) : mm_wp d y pc ls (.int x :: .ref a :: r) h Q ↔ ((mm_s h a).1 = 22 ∧ mm_in x (mm_s h a).2 = true) ∧ mm_wp d y (pc + 1) ls (.int (mm_i h a x.toNatClampNeg) :: r) h Q := wp_if _ hc rfl
theorem wp_aaload (hc : tb_cod y pc = some (.aaload, 1)) : mm_wp d y pc ls (.int x :: .ref a :: r) h Q ↔ (23 ≤ (mm_s h a).1 ∧ (mm_s h a).1 ≤ 26 ∧ mm_in x (mm_s h a).2 = true) ∧ mm_wp d y (pc + 1) ls (mm_o (mm_r h a x.toNatClampNeg) :: r) h Q := wp_if _ hc rfl
theorem wp_iastore (hc : tb_cod y pc = some (.iastore, 1)) : mm_wp d y pc ls (.int x2 :: .int x :: .ref a :: r) h Q ↔ ((mm_s h a).1 = 20 ∧ ¬ a = 0 ∧ mm_in x (mm_s h a).2 = true) ∧ mm_wp d y (pc + 1) ls r (mm_pi h a x.toNatClampNeg x2) Q := wp_if _ hc rfl
theorem wp_lastore (hc : tb_cod y pc = some (.lastore, 1)) : mm_wp d y pc ls (.long w :: .int x :: .ref a :: r) h Q ↔ ((mm_s h a).1 = 21 ∧ mm_in x (mm_s h a).2 = true) ∧ mm_wp d y (pc + 1) ls r (mm_pl h a x.toNatClampNeg w) Q := wp_if _ hc rfl
theorem wp_bastore (hc : tb_cod y pc = some (.bastore, 1)) : mm_wp d y pc ls (.int x2 :: .int x :: .ref a :: r) h Q ↔ ((mm_s h a).1 = 22 ∧ (x2 = 0 ∨ x2 = 1) ∧ mm_in x (mm_s h a).2 = true) ∧ mm_wp d y (pc + 1) ls r (mm_pi h a x.toNatClampNeg x2) Q := wp_if _ hc rfl
theorem wp_aastore (hc : tb_cod y pc = some (.aastore, 1)) : mm_wp d y pc ls (.ref b :: .int x :: .ref a :: r) h Q ↔ (((mm_s h a).1 = 23 ∧ (mm_s h b).1 = 5 ∨ (mm_s h a).1 = 24 ∧ (mm_s h b).1 = 6 ∨ (mm_s h a).1 = 25 ∧ (mm_s h b).1 = 4) ∧ mm_in x (mm_s h a).2 = true) ∧ mm_wp d y (pc + 1) ls r (mm_pr h a x.toNatClampNeg (some b)) Q := wp_if _ hc rfl
theorem wp_alen (hc : tb_cod y pc = some (.arraylength, 1)) : mm_wp d y pc ls (.ref a :: r) h Q ↔ (20 ≤ (mm_s h a).1 ∧ (mm_s h a).1 ≤ 26) ∧ mm_wp d y (pc + 1) ls (.int (nI (mm_s h a).2) :: r) h Q := wp_if _ hc rfl
theorem wp_new {sl : Nat} (hc : tb_cod y pc = some (.new k, 3)) (hk : tb_ck y k = some kd) (hs : tb_sl kd = sl) : mm_wp d y pc ls st h Q ↔ mm_wp d y (pc + 3) ls (.ref (mm_n h) :: st) (mm_nw h kd sl sl) Q := by subst hs; exact wp_go hc (by simp only [mm_act, hk])
theorem wp_newI (hc : tb_cod y pc = some (.newarray .int, 2)) : mm_wp d y pc ls (.int x :: r) h Q ↔ (0 ≤ x ∧ x ≤ 1000) ∧ mm_wp d y (pc + 2) ls (.ref (mm_n h) :: r) (mm_nw h 20 x.toNatClampNeg x.toNatClampNeg) Q := by
  rw [wp_if (c := 0 ≤ x ∧ x ≤ 1000 ∧ (ClassFile.ArrayType.int = .int ∨ ClassFile.ArrayType.int = .long ∨ ClassFile.ArrayType.int = .boolean)) inferInstance hc rfl]
  simp
theorem wp_newL (hc : tb_cod y pc = some (.newarray .long, 2)) : mm_wp d y pc ls (.int x :: r) h Q ↔ (0 ≤ x ∧ x ≤ 1000) ∧ mm_wp d y (pc + 2) ls (.ref (mm_n h) :: r) (mm_nw h 21 x.toNatClampNeg x.toNatClampNeg) Q := by
  rw [wp_if (c := 0 ≤ x ∧ x ≤ 1000 ∧ (ClassFile.ArrayType.long = .int ∨ ClassFile.ArrayType.long = .long ∨ ClassFile.ArrayType.long = .boolean)) inferInstance hc rfl]
  simp
theorem wp_newZ (hc : tb_cod y pc = some (.newarray .boolean, 2)) : mm_wp d y pc ls (.int x :: r) h Q ↔ (0 ≤ x ∧ x ≤ 1000) ∧ mm_wp d y (pc + 2) ls (.ref (mm_n h) :: r) (mm_nw h 22 x.toNatClampNeg x.toNatClampNeg) Q := by
  rw [wp_if (c := 0 ≤ x ∧ x ≤ 1000 ∧ (ClassFile.ArrayType.boolean = .int ∨ ClassFile.ArrayType.boolean = .long ∨ ClassFile.ArrayType.boolean = .boolean)) inferInstance hc rfl]
  simp
theorem wp_newA {ka : Nat} (hc : tb_cod y pc = some (.anewarray k, 3)) (hk : tb_ck y k = some kd) (hd : kd = 5 ∧ ka = 23 ∨ kd = 6 ∧ ka = 24 ∨ kd = 4 ∧ ka = 25) : mm_wp d y pc ls (.int x :: r) h Q ↔ (0 ≤ x ∧ x ≤ 1000) ∧ mm_wp d y (pc + 3) ls (.ref (mm_n h) :: r) (mm_nw h ka x.toNatClampNeg x.toNatClampNeg) Q := by
  rw [wp_if (c := 0 ≤ x ∧ x ≤ 1000 ∧ (kd = 5 ∨ kd = 6 ∨ kd = 4)) inferInstance hc (by simp only [mm_act, hk]; rfl)]
  rcases hd with ⟨rfl, rfl⟩ | ⟨rfl, rfl⟩ | ⟨rfl, rfl⟩ <;> simp
theorem wp_newM (hc : tb_cod y pc = some (.multianewarray k 2, 4)) (hk : tb_ck y k = some 26) : mm_wp d y pc ls (.int x2 :: .int x :: r) h Q ↔ (0 ≤ x ∧ x ≤ 1000 ∧ 0 ≤ x2 ∧ x2 ≤ 1000) ∧ mm_wp d y (pc + 4) ls (.ref (mm_n h) :: r) (mm_nw2 h 26 20 x.toNatClampNeg x2.toNatClampNeg) Q := by
  rw [wp_if (c := 0 ≤ x ∧ x ≤ 1000 ∧ 0 ≤ x2 ∧ x2 ≤ 1000 ∧ 2 = 2 ∧ 26 = 26) inferInstance hc (by simp only [mm_act, hk]; rfl)]
  simp
theorem wp_iret (hc : tb_cod y pc = some (.ireturn, 1)) (ht : tb_rt y = 1) : mm_wp d y pc ls (.int x :: r) h Q ↔ Q (.inl (some (.int x))) h := by
  rw [wp_retif (c := tb_rt y = 1 ∨ tb_rt y = 3 ∧ (x = 0 ∨ x = 1)) inferInstance hc rfl]
  simp [ht]
theorem wp_zret (hc : tb_cod y pc = some (.ireturn, 1)) (ht : tb_rt y = 3) : mm_wp d y pc ls (.int x :: r) h Q ↔ (x = 0 ∨ x = 1) ∧ Q (.inl (some (.int x))) h := by
  rw [wp_retif (c := tb_rt y = 1 ∨ tb_rt y = 3 ∧ (x = 0 ∨ x = 1)) inferInstance hc rfl]
  simp [ht]
theorem wp_lret (hc : tb_cod y pc = some (.lreturn, 1)) (ht : tb_rt y = 2) : mm_wp d y pc ls (.long w :: r) h Q ↔ Q (.inl (some (.long w))) h := by
  rw [wp_retif (c := tb_rt y = 2) inferInstance hc rfl]
  simp [ht]
theorem wp_aret (hc : tb_cod y pc = some (.areturn, 1)) (ht : tb_rt y = 4) (o : Option Nat) : mm_wp d y pc ls (mm_o o :: r) h Q ↔ Q (.inl (some (mm_o o))) h := by
  cases o
  · rw [wp_retif (c := tb_rt y = 4) inferInstance hc rfl]
    simp [ht, mm_o]
  · rw [wp_retif (c := tb_rt y = 4) inferInstance hc rfl]
    simp [ht, mm_o]
theorem wp_vret (hc : tb_cod y pc = some (.return_, 1)) (ht : tb_rt y = 0) : mm_wp d y pc ls st h Q ↔ Q (.inl none) h := by
  rw [wp_retif (c := tb_rt y = 0) inferInstance hc rfl]
  simp [ht]
theorem wp_athrow (hc : tb_cod y pc = some (.athrow, 1)) (hh : tb_han.getD y [] = []) : mm_wp d y pc ls (.ref a :: r) h Q ↔ 30 ≤ (mm_s h a).1 ∧ Q (.inr a) h := wp_thr hc rfl hh
theorem wp_objInit (hc : tb_cod y pc = some (.invokespecial k, 3)) (hk : tb_ca y k = some 1000) (hr : r.length ≤ 8) : mm_wp d y pc ls (.ref a :: r) h Q ↔ mm_wp d y (pc + 3) ls r h Q := wp_go hc (by simp only [mm_act, hk, if_true, mm_if, hr])
theorem wp_excInit {q : UInt32} (hc : tb_cod y pc = some (.invokespecial k, 3)) (hk : tb_ca y k = some z) (hz : 1000 < z) (hkd : z - 971 = kd) (hr : r.length ≤ 8) : mm_wp d y pc ls (.float q :: .ref a :: r) h Q ↔ (mm_s h a).1 = kd ∧ mm_wp d y (pc + 3) ls r h Q := by
  subst hkd
  rw [wp_if (c := (mm_s h a).1 = z - 971 ∧ r.length ≤ 8) (pc' := pc + 3) (ls' := ls) (st' := r) (h' := h) inferInstance hc (by simp only [mm_act, hk, if_neg (show ¬ z = 1000 by omega), if_pos hz])]
  simp [hr]
theorem wp_static {as rest env : List Value} (hc : tb_cod y pc = some (.invokestatic k, 3)) (hk : tb_ca y k = some z) (hz : z < 1000 ∧ tb_sta z = true) (h1 : tb_na z ≤ st.length ∧ st.length ≤ tb_na z + 8) (ha : (st.take (tb_na z)).reverse = as) (hr : st.drop (tb_na z) = rest) (he : mm_ent z as = env) (hok : mm_eok z env = true) : mm_wp (d + 1) y pc ls st h Q ↔ mm_wp d z 0 env [] h (mm_bk (d + 1) y pc ls rest Q) := by
  subst he; subst ha; subst hr
  exact wp_call hc (by simp only [mm_act, hk, mm_if, if_pos hz, mm_call, if_pos (And.intro h1 hok)])
theorem wp_special {as rest env : List Value} (hc : tb_cod y pc = some (.invokespecial k, 3)) (hk : tb_ca y k = some z) (hz : z < 1000 ∧ tb_sta z = false) (h1 : tb_na z ≤ st.length ∧ st.length ≤ tb_na z + 8) (hv : st[tb_na z - 1]? = some (.ref a)) (ha : (st.take (tb_na z)).reverse = as) (hr : st.drop (tb_na z) = rest) (he : mm_ent z as = env) (hok : mm_eok z env = true) : mm_wp (d + 1) y pc ls st h Q ↔ mm_wp d z 0 env [] h (mm_bk (d + 1) y pc ls rest Q) := by
  subst he; subst ha; subst hr
  exact wp_call hc (by simp only [mm_act, hk, if_neg (show ¬ z = 1000 by omega), if_neg (show ¬ 1000 < z by omega), mm_if, hz.2, if_true, mm_callI, hv, mm_call, if_pos (And.intro h1 hok)])
theorem wp_virtual {as rest env : List Value} (hc : tb_cod y pc = some (.invokevirtual k, 3)) (hk : tb_ca y k = some z) (hz : z < 1000 ∧ tb_sta z = false) (h1 : tb_na z ≤ st.length ∧ st.length ≤ tb_na z + 8) (hv : st[tb_na z - 1]? = some (.ref a)) (ha : (st.take (tb_na z)).reverse = as) (hr : st.drop (tb_na z) = rest) (he : mm_ent z as = env) (hok : mm_eok z env = true) (hkd : tb_cls z = kd) : mm_wp (d + 1) y pc ls st h Q ↔ (mm_s h a).1 = kd ∧ mm_wp d z 0 env [] h (mm_bk (d + 1) y pc ls rest Q) := by
  subst he; subst ha; subst hr; subst hkd
  exact wp_callif inferInstance hc (by simp only [mm_act, hk, mm_callV, hv, mm_call]; simp only [mm_if, if_pos hz, if_pos (And.intro h1 hok)])
end
end
section
/-! rows of the program, by rows.py -/
section
variable {d : Nat} {ls st : List Value} {h : mm_H} {Q : mm_Q} {o : Option Nat} {a b c : Nat} {x y x1 x2 x3 x4 x5 x6 : Int32} {w w2 w3 w4 : Int64} {q : UInt32} {l0 l1 l2 l3 l4 l5 l6 l7 l8 l9 l10 l11 l12 l13 l14 l15 l16 t0 t1 t2 t3 t4 t5 : Value}
/-! 19: LoadRoom$Piece.volume()I -/
theorem s19_0 : mm_wp d 19 0 [.ref a] st h Q ↔ mm_wp d 19 1 [.ref a] (.ref a :: st) h Q := wp_aloadR_n rfl rfl
theorem s19_1 : mm_wp d 19 1 ls (.ref a :: st) h Q ↔ (mm_s h a).1 = 5 ∧ mm_wp d 19 4 ls (.int (mm_i h a 3) :: st) h Q := wp_getI rfl rfl (by decide) (by decide)
theorem s19_4 : mm_wp d 19 4 [.ref a] st h Q ↔ mm_wp d 19 5 [.ref a] (.ref a :: st) h Q := wp_aloadR_n rfl rfl
theorem s19_5 : mm_wp d 19 5 ls (.ref a :: st) h Q ↔ (mm_s h a).1 = 5 ∧ mm_wp d 19 8 ls (.int (mm_i h a 4) :: st) h Q := wp_getI rfl rfl (by decide) (by decide)
theorem s19_8 : mm_wp d 19 8 ls (.int x2 :: .int x :: st) h Q ↔ mm_wp d 19 9 ls (.int (x * x2) :: st) h Q := wp_imul rfl
theorem s19_9 : mm_wp d 19 9 [.ref a] st h Q ↔ mm_wp d 19 10 [.ref a] (.ref a :: st) h Q := wp_aloadR_n rfl rfl
theorem s19_10 : mm_wp d 19 10 ls (.ref a :: st) h Q ↔ (mm_s h a).1 = 5 ∧ mm_wp d 19 13 ls (.int (mm_i h a 5) :: st) h Q := wp_getI rfl rfl (by decide) (by decide)
theorem s19_13 : mm_wp d 19 13 ls (.int x2 :: .int x :: st) h Q ↔ mm_wp d 19 14 ls (.int (x * x2) :: st) h Q := wp_imul rfl
theorem s19_14 : mm_wp d 19 14 ls (.int x :: st) h Q ↔ Q (.inl (some (.int x))) h := wp_iret rfl rfl
/-! 20: LoadRoom.moment()J -/
theorem s20_0 : mm_wp d 20 0 [.ref a] st h Q ↔ mm_wp d 20 1 [.ref a] (.ref a :: st) h Q := wp_aloadR_n rfl rfl
theorem s20_1 : mm_wp d 20 1 ls (.ref a :: st) h Q ↔ (mm_s h a).1 = 9 ∧ mm_wp d 20 4 ls (mm_o (mm_r h a 2) :: st) h Q := wp_getR rfl rfl
theorem s20_4 : mm_wp d 20 4 ls (.ref a :: st) h Q ↔ (mm_s h a).1 = 8 ∧ mm_wp d 20 7 ls (mm_o (mm_r h a 3) :: st) h Q := wp_getR rfl rfl
theorem s20_7 : mm_wp d 20 7 ls (.ref a :: st) h Q ↔ (mm_s h a).1 = 7 ∧ mm_wp d 20 10 ls (.long (mm_l h a 3) :: st) h Q := wp_getL rfl rfl
theorem s20_10 : mm_wp d 20 10 ls (.long w :: st) h Q ↔ Q (.inl (some (.long w))) h := wp_lret rfl rfl
/-! 21: LoadRoomLaw.cell([II)I -/
theorem s21_0 : mm_wp d 21 0 [l0, .int x] st h Q ↔ mm_wp d 21 1 [l0, .int x] (.int x :: st) h Q := wp_iload_n rfl rfl
theorem s21_1 : mm_wp d 21 1 [.ref a, l1] st h Q ↔ mm_wp d 21 2 [.ref a, l1] (.ref a :: st) h Q := wp_aloadR_n rfl rfl
theorem s21_1o : mm_wp d 21 1 [mm_o o, l1] st h Q ↔ mm_wp d 21 2 [mm_o o, l1] (mm_o o :: st) h Q := wp_aload_n rfl o rfl
theorem s21_2 : mm_wp d 21 2 ls (.ref a :: st) h Q ↔ (20 ≤ (mm_s h a).1 ∧ (mm_s h a).1 ≤ 26) ∧ mm_wp d 21 3 ls (.int (nI (mm_s h a).2) :: st) h Q := wp_alen rfl
theorem s21_3 : mm_wp d 21 3 ls (.int x2 :: .int x :: st) h Q ↔ if x2 ≤ x then mm_wp d 21 12 ls st h Q else mm_wp d 21 6 ls st h Q := wp_icmpge rfl rfl
theorem s21_6 : mm_wp d 21 6 [.ref a, l1] st h Q ↔ mm_wp d 21 7 [.ref a, l1] (.ref a :: st) h Q := wp_aloadR_n rfl rfl
theorem s21_6o : mm_wp d 21 6 [mm_o o, l1] st h Q ↔ mm_wp d 21 7 [mm_o o, l1] (mm_o o :: st) h Q := wp_aload_n rfl o rfl
theorem s21_7 : mm_wp d 21 7 [l0, .int x] st h Q ↔ mm_wp d 21 8 [l0, .int x] (.int x :: st) h Q := wp_iload_n rfl rfl
theorem s21_8 : mm_wp d 21 8 ls (.int x :: .ref a :: st) h Q ↔ ((mm_s h a).1 = 20 ∧ mm_in x (mm_s h a).2 = true) ∧ mm_wp d 21 9 ls (.int (mm_i h a x.toNatClampNeg) :: st) h Q := wp_iaload rfl
theorem s21_9 : mm_wp d 21 9 ls st h Q ↔ mm_wp d 21 13 ls st h Q := wp_goto rfl rfl
theorem s21_12 : mm_wp d 21 12 ls st h Q ↔ mm_wp d 21 13 ls (.int (0 : Int32) :: st) h Q := wp_iconst rfl rfl
theorem s21_13 : mm_wp d 21 13 ls (.int x :: st) h Q ↔ Q (.inl (some (.int x))) h := wp_iret rfl rfl
/-! 22: LoadRoomLaw.piece(LLoadRoom;IIII[J)I -/
theorem s22_0 : mm_wp d 22 0 [l0, l1, l2, l3, l4, .ref a, l6] st h Q ↔ mm_wp d 22 2 [l0, l1, l2, l3, l4, .ref a, l6] (.ref a :: st) h Q := wp_aloadR rfl rfl
theorem s22_0o : mm_wp d 22 0 [l0, l1, l2, l3, l4, mm_o o, l6] st h Q ↔ mm_wp d 22 2 [l0, l1, l2, l3, l4, mm_o o, l6] (mm_o o :: st) h Q := wp_aload rfl o rfl
theorem s22_2 : mm_wp d 22 2 ls st h Q ↔ mm_wp d 22 3 ls (.int (0 : Int32) :: st) h Q := wp_iconst rfl rfl
theorem s22_3 : mm_wp d 22 3 [.ref a, l1, l2, l3, l4, l5, l6] st h Q ↔ mm_wp d 22 4 [.ref a, l1, l2, l3, l4, l5, l6] (.ref a :: st) h Q := wp_aloadR_n rfl rfl
theorem s22_3o : mm_wp d 22 3 [mm_o o, l1, l2, l3, l4, l5, l6] st h Q ↔ mm_wp d 22 4 [mm_o o, l1, l2, l3, l4, l5, l6] (mm_o o :: st) h Q := wp_aload_n rfl o rfl
theorem s22_4 : mm_wp d 22 4 [l0, .int x, l2, l3, l4, l5, l6] st h Q ↔ mm_wp d 22 5 [l0, .int x, l2, l3, l4, l5, l6] (.int x :: st) h Q := wp_iload_n rfl rfl
theorem s22_5 : mm_wp d 22 5 [l0, l1, .int x, l3, l4, l5, l6] st h Q ↔ mm_wp d 22 6 [l0, l1, .int x, l3, l4, l5, l6] (.int x :: st) h Q := wp_iload_n rfl rfl
theorem s22_6 : mm_wp d 22 6 [l0, l1, l2, .int x, l4, l5, l6] st h Q ↔ mm_wp d 22 7 [l0, l1, l2, .int x, l4, l5, l6] (.int x :: st) h Q := wp_iload_n rfl rfl
theorem s22_7 : mm_wp d 22 7 [l0, l1, l2, l3, .int x, l5, l6] st h Q ↔ mm_wp d 22 9 [l0, l1, l2, l3, .int x, l5, l6] (.int x :: st) h Q := wp_iload rfl rfl
theorem s22_9 : mm_wp (d + 1) 22 9 ls [.int x5, .int x4, .int x3, .int x2, .ref a, t1, t0] h Q ↔ (mm_s h a).1 = 9 ∧ mm_wp d 23 0 [.ref a, .int x2, .int x3, .int x4, .int x5] [] h (mm_bk (d + 1) 22 9 ls [t1, t0] Q) := wp_virtual rfl rfl ⟨by decide, rfl⟩ ⟨Nat.le_of_ble_eq_true rfl, Nat.le_of_ble_eq_true rfl⟩ rfl rfl rfl rfl rfl rfl
theorem s22_12 : mm_wp d 22 12 ls (.int x :: st) h Q ↔ mm_wp d 22 13 ls (.long x.toInt64 :: st) h Q := wp_i2l rfl
theorem s22_13 : mm_wp d 22 13 ls (.long w :: .int x :: .ref a :: st) h Q ↔ ((mm_s h a).1 = 21 ∧ mm_in x (mm_s h a).2 = true) ∧ mm_wp d 22 14 ls st (mm_pl h a x.toNatClampNeg w) Q := wp_lastore rfl
theorem s22_14 : mm_wp d 22 14 ls st h Q ↔ mm_wp d 22 25 ls st h Q := wp_goto rfl rfl
theorem s22_17 : mm_wp d 22 17 [l0, l1, l2, l3, l4, l5, l6] (.ref a :: st) h Q ↔ mm_wp d 22 19 [l0, l1, l2, l3, l4, l5, .ref a] st h Q := wp_astoreR rfl rfl
theorem s22_17o : mm_wp d 22 17 [l0, l1, l2, l3, l4, l5, l6] (mm_o o :: st) h Q ↔ mm_wp d 22 19 [l0, l1, l2, l3, l4, l5, mm_o o] st h Q := wp_astore rfl o rfl
theorem s22_19 : mm_wp d 22 19 ls st h Q ↔ mm_wp d 22 20 ls (.int (1 : Int32) :: st) h Q := wp_iconst rfl rfl
theorem s22_20 : mm_wp d 22 20 ls (.int x :: st) h Q ↔ Q (.inl (some (.int x))) h := wp_iret rfl rfl
theorem s22_21 : mm_wp d 22 21 [l0, l1, l2, l3, l4, l5, l6] (.ref a :: st) h Q ↔ mm_wp d 22 23 [l0, l1, l2, l3, l4, l5, .ref a] st h Q := wp_astoreR rfl rfl
theorem s22_21o : mm_wp d 22 21 [l0, l1, l2, l3, l4, l5, l6] (mm_o o :: st) h Q ↔ mm_wp d 22 23 [l0, l1, l2, l3, l4, l5, mm_o o] st h Q := wp_astore rfl o rfl
theorem s22_23 : mm_wp d 22 23 ls st h Q ↔ mm_wp d 22 24 ls (.int (2 : Int32) :: st) h Q := wp_iconst rfl rfl
theorem s22_24 : mm_wp d 22 24 ls (.int x :: st) h Q ↔ Q (.inl (some (.int x))) h := wp_iret rfl rfl
theorem s22_25 : mm_wp d 22 25 ls st h Q ↔ mm_wp d 22 26 ls (.int (0 : Int32) :: st) h Q := wp_iconst rfl rfl
theorem s22_26 : mm_wp d 22 26 ls (.int x :: st) h Q ↔ Q (.inl (some (.int x))) h := wp_iret rfl rfl
/-! 23: LoadRoom.piece(IIII)I -/
theorem s23_0 : mm_wp d 23 0 [l0, .int x, l2, l3, l4] st h Q ↔ mm_wp d 23 1 [l0, .int x, l2, l3, l4] (.int x :: st) h Q := wp_iload_n rfl rfl
theorem s23_1 : mm_wp (d + 1) 23 1 ls [.int x] h Q ↔ mm_wp d 24 0 [.int x] [] h (mm_bk (d + 1) 23 1 ls [] Q) := wp_static rfl rfl ⟨by decide, rfl⟩ ⟨Nat.le_of_ble_eq_true rfl, Nat.le_of_ble_eq_true rfl⟩ rfl rfl rfl rfl
theorem s23_4 : mm_wp d 23 4 ls (.int x :: st) h Q ↔ if x = 0 then mm_wp d 23 21 ls st h Q else mm_wp d 23 7 ls st h Q := wp_ifeq rfl rfl
theorem s23_7 : mm_wp d 23 7 [l0, l1, .int x, l3, l4] st h Q ↔ mm_wp d 23 8 [l0, l1, .int x, l3, l4] (.int x :: st) h Q := wp_iload_n rfl rfl
theorem s23_8 : mm_wp (d + 1) 23 8 ls [.int x] h Q ↔ mm_wp d 24 0 [.int x] [] h (mm_bk (d + 1) 23 8 ls [] Q) := wp_static rfl rfl ⟨by decide, rfl⟩ ⟨Nat.le_of_ble_eq_true rfl, Nat.le_of_ble_eq_true rfl⟩ rfl rfl rfl rfl
theorem s23_11 : mm_wp d 23 11 ls (.int x :: st) h Q ↔ if x = 0 then mm_wp d 23 21 ls st h Q else mm_wp d 23 14 ls st h Q := wp_ifeq rfl rfl
theorem s23_14 : mm_wp d 23 14 [l0, l1, l2, .int x, l4] st h Q ↔ mm_wp d 23 15 [l0, l1, l2, .int x, l4] (.int x :: st) h Q := wp_iload_n rfl rfl
theorem s23_15 : mm_wp (d + 1) 23 15 ls [.int x] h Q ↔ mm_wp d 24 0 [.int x] [] h (mm_bk (d + 1) 23 15 ls [] Q) := wp_static rfl rfl ⟨by decide, rfl⟩ ⟨Nat.le_of_ble_eq_true rfl, Nat.le_of_ble_eq_true rfl⟩ rfl rfl rfl rfl
theorem s23_18 : mm_wp d 23 18 ls (.int x :: st) h Q ↔ if x = 0 then mm_wp d 23 21 ls st h Q else mm_wp d 23 31 ls st h Q := wp_ifne rfl rfl
theorem s23_21 : mm_wp d 23 21 ls st h Q ↔ mm_wp d 23 24 ls (.ref (mm_n h) :: st) (mm_nw h 30 6 6) Q := wp_new rfl rfl rfl
theorem s23_24 : mm_wp d 23 24 ls (.ref a :: st) h Q ↔ mm_wp d 23 25 ls (.ref a :: .ref a :: st) h Q := wp_dupR rfl
theorem s23_25 : mm_wp d 23 25 ls st h Q ↔ mm_wp d 23 27 ls (.float (UInt32.ofNat 1) :: st) h Q := wp_ldcS rfl rfl rfl
theorem s23_27 : mm_wp d 23 27 ls (.float q :: .ref a :: [t0]) h Q ↔ (mm_s h a).1 = 30 ∧ mm_wp d 23 30 ls [t0] h Q := wp_excInit (z := 1001) rfl rfl (Nat.le_of_ble_eq_true rfl) rfl (Nat.le_of_ble_eq_true rfl)
theorem s23_30 : mm_wp d 23 30 ls (.ref a :: st) h Q ↔ 30 ≤ (mm_s h a).1 ∧ Q (.inr a) h := wp_athrow rfl rfl
theorem s23_31 : mm_wp d 23 31 [l0, l1, l2, l3, .int x] st h Q ↔ mm_wp d 23 33 [l0, l1, l2, l3, .int x] (.int x :: st) h Q := wp_iload rfl rfl
theorem s23_33 : mm_wp d 23 33 ls st h Q ↔ mm_wp d 23 34 ls (.int (1 : Int32) :: st) h Q := wp_iconst rfl rfl
theorem s23_34 : mm_wp d 23 34 ls st h Q ↔ mm_wp d 23 37 ls (.int (10000 : Int32) :: st) h Q := wp_sipush rfl rfl
theorem s23_37 : mm_wp (d + 1) 23 37 ls [.int x3, .int x2, .int x] h Q ↔ mm_wp d 25 0 [.int x, .int x2, .int x3] [] h (mm_bk (d + 1) 23 37 ls [] Q) := wp_static rfl rfl ⟨by decide, rfl⟩ ⟨Nat.le_of_ble_eq_true rfl, Nat.le_of_ble_eq_true rfl⟩ rfl rfl rfl rfl
theorem s23_40 : mm_wp d 23 40 ls (.int x :: st) h Q ↔ if x = 0 then mm_wp d 23 43 ls st h Q else mm_wp d 23 53 ls st h Q := wp_ifne rfl rfl
theorem s23_43 : mm_wp d 23 43 ls st h Q ↔ mm_wp d 23 46 ls (.ref (mm_n h) :: st) (mm_nw h 30 6 6) Q := wp_new rfl rfl rfl
theorem s23_46 : mm_wp d 23 46 ls (.ref a :: st) h Q ↔ mm_wp d 23 47 ls (.ref a :: .ref a :: st) h Q := wp_dupR rfl
theorem s23_47 : mm_wp d 23 47 ls st h Q ↔ mm_wp d 23 49 ls (.float (UInt32.ofNat 2) :: st) h Q := wp_ldcS rfl rfl rfl
theorem s23_49 : mm_wp d 23 49 ls (.float q :: .ref a :: [t0]) h Q ↔ (mm_s h a).1 = 30 ∧ mm_wp d 23 52 ls [t0] h Q := wp_excInit (z := 1001) rfl rfl (Nat.le_of_ble_eq_true rfl) rfl (Nat.le_of_ble_eq_true rfl)
theorem s23_52 : mm_wp d 23 52 ls (.ref a :: st) h Q ↔ 30 ≤ (mm_s h a).1 ∧ Q (.inr a) h := wp_athrow rfl rfl
theorem s23_53 : mm_wp d 23 53 [.ref a, l1, l2, l3, l4] st h Q ↔ mm_wp d 23 54 [.ref a, l1, l2, l3, l4] (.ref a :: st) h Q := wp_aloadR_n rfl rfl
theorem s23_54 : mm_wp d 23 54 ls (.ref a :: st) h Q ↔ (mm_s h a).1 = 9 ∧ mm_wp d 23 57 ls (mm_o (mm_r h a 1) :: st) h Q := wp_getR rfl rfl
theorem s23_57 : mm_wp (d + 1) 23 57 ls [.ref a] h Q ↔ (mm_s h a).1 = 2 ∧ mm_wp d 26 0 [.ref a] [] h (mm_bk (d + 1) 23 57 ls [] Q) := wp_virtual rfl rfl ⟨by decide, rfl⟩ ⟨Nat.le_of_ble_eq_true rfl, Nat.le_of_ble_eq_true rfl⟩ rfl rfl rfl rfl rfl rfl
theorem s23_60 : mm_wp d 23 60 ls (.int x :: st) h Q ↔ if x = 0 then mm_wp d 23 73 ls st h Q else mm_wp d 23 63 ls st h Q := wp_ifeq rfl rfl
theorem s23_63 : mm_wp d 23 63 ls st h Q ↔ mm_wp d 23 66 ls (.ref (mm_n h) :: st) (mm_nw h 31 6 6) Q := wp_new rfl rfl rfl
theorem s23_66 : mm_wp d 23 66 ls (.ref a :: st) h Q ↔ mm_wp d 23 67 ls (.ref a :: .ref a :: st) h Q := wp_dupR rfl
theorem s23_67 : mm_wp d 23 67 ls st h Q ↔ mm_wp d 23 69 ls (.float (UInt32.ofNat 3) :: st) h Q := wp_ldcS rfl rfl rfl
theorem s23_69 : mm_wp d 23 69 ls (.float q :: .ref a :: [t0]) h Q ↔ (mm_s h a).1 = 31 ∧ mm_wp d 23 72 ls [t0] h Q := wp_excInit (z := 1002) rfl rfl (Nat.le_of_ble_eq_true rfl) rfl (Nat.le_of_ble_eq_true rfl)
theorem s23_72 : mm_wp d 23 72 ls (.ref a :: st) h Q ↔ 30 ≤ (mm_s h a).1 ∧ Q (.inr a) h := wp_athrow rfl rfl
theorem s23_73 : mm_wp d 23 73 [.ref a, l1, l2, l3, l4] st h Q ↔ mm_wp d 23 74 [.ref a, l1, l2, l3, l4] (.ref a :: st) h Q := wp_aloadR_n rfl rfl
theorem s23_74 : mm_wp d 23 74 ls (.ref a :: st) h Q ↔ (mm_s h a).1 = 9 ∧ mm_wp d 23 77 ls (mm_o (mm_r h a 2) :: st) h Q := wp_getR rfl rfl
theorem s23_77 : mm_wp (d + 1) 23 77 ls [.ref a] h Q ↔ (mm_s h a).1 = 8 ∧ mm_wp d 27 0 [.ref a] [] h (mm_bk (d + 1) 23 77 ls [] Q) := wp_virtual rfl rfl ⟨by decide, rfl⟩ ⟨Nat.le_of_ble_eq_true rfl, Nat.le_of_ble_eq_true rfl⟩ rfl rfl rfl rfl rfl rfl
theorem s23_80 : mm_wp d 23 80 [.ref a, l1, l2, l3, l4] st h Q ↔ mm_wp d 23 81 [.ref a, l1, l2, l3, l4] (.ref a :: st) h Q := wp_aloadR_n rfl rfl
theorem s23_81 : mm_wp d 23 81 ls (.ref a :: st) h Q ↔ (mm_s h a).1 = 9 ∧ mm_wp d 23 84 ls (mm_o (mm_r h a 1) :: st) h Q := wp_getR rfl rfl
theorem s23_84 : mm_wp d 23 84 [l0, .int x, l2, l3, l4] st h Q ↔ mm_wp d 23 85 [l0, .int x, l2, l3, l4] (.int x :: st) h Q := wp_iload_n rfl rfl
theorem s23_85 : mm_wp d 23 85 [l0, l1, .int x, l3, l4] st h Q ↔ mm_wp d 23 86 [l0, l1, .int x, l3, l4] (.int x :: st) h Q := wp_iload_n rfl rfl
theorem s23_86 : mm_wp d 23 86 [l0, l1, l2, .int x, l4] st h Q ↔ mm_wp d 23 87 [l0, l1, l2, .int x, l4] (.int x :: st) h Q := wp_iload_n rfl rfl
theorem s23_87 : mm_wp d 23 87 [l0, l1, l2, l3, .int x] st h Q ↔ mm_wp d 23 89 [l0, l1, l2, l3, .int x] (.int x :: st) h Q := wp_iload rfl rfl
theorem s23_89 : mm_wp (d + 1) 23 89 ls [.int x5, .int x4, .int x3, .int x2, .ref a] h Q ↔ (mm_s h a).1 = 2 ∧ mm_wp d 29 0 [.ref a, .int x2, .int x3, .int x4, .int x5] [] h (mm_bk (d + 1) 23 89 ls [] Q) := wp_virtual rfl rfl ⟨by decide, rfl⟩ ⟨Nat.le_of_ble_eq_true rfl, Nat.le_of_ble_eq_true rfl⟩ rfl rfl rfl rfl rfl rfl
theorem s23_92 : mm_wp d 23 92 ls (.int x :: st) h Q ↔ Q (.inl (some (.int x))) h := wp_iret rfl rfl
/-! 24: LoadRoom.isLength(I)Z -/
theorem s24_0 : mm_wp d 24 0 [.int x] st h Q ↔ mm_wp d 24 1 [.int x] (.int x :: st) h Q := wp_iload_n rfl rfl
theorem s24_1 : mm_wp d 24 1 ls st h Q ↔ mm_wp d 24 2 ls (.int (1 : Int32) :: st) h Q := wp_iconst rfl rfl
theorem s24_2 : mm_wp d 24 2 ls st h Q ↔ mm_wp d 24 5 ls (.int (200 : Int32) :: st) h Q := wp_sipush rfl rfl
theorem s24_5 : mm_wp (d + 1) 24 5 ls [.int x3, .int x2, .int x] h Q ↔ mm_wp d 25 0 [.int x, .int x2, .int x3] [] h (mm_bk (d + 1) 24 5 ls [] Q) := wp_static rfl rfl ⟨by decide, rfl⟩ ⟨Nat.le_of_ble_eq_true rfl, Nat.le_of_ble_eq_true rfl⟩ rfl rfl rfl rfl
theorem s24_8 : mm_wp d 24 8 ls (.int x :: st) h Q ↔ (x = 0 ∨ x = 1) ∧ Q (.inl (some (.int x))) h := wp_zret rfl rfl
/-! 25: LoadRoom.isWithin(III)Z -/
theorem s25_0 : mm_wp d 25 0 [.int x, l1, l2] st h Q ↔ mm_wp d 25 1 [.int x, l1, l2] (.int x :: st) h Q := wp_iload_n rfl rfl
theorem s25_1 : mm_wp d 25 1 [l0, .int x, l2] st h Q ↔ mm_wp d 25 2 [l0, .int x, l2] (.int x :: st) h Q := wp_iload_n rfl rfl
theorem s25_2 : mm_wp d 25 2 ls (.int x2 :: .int x :: st) h Q ↔ if x < x2 then mm_wp d 25 14 ls st h Q else mm_wp d 25 5 ls st h Q := wp_icmplt rfl rfl
theorem s25_5 : mm_wp d 25 5 [.int x, l1, l2] st h Q ↔ mm_wp d 25 6 [.int x, l1, l2] (.int x :: st) h Q := wp_iload_n rfl rfl
theorem s25_6 : mm_wp d 25 6 [l0, l1, .int x] st h Q ↔ mm_wp d 25 7 [l0, l1, .int x] (.int x :: st) h Q := wp_iload_n rfl rfl
theorem s25_7 : mm_wp d 25 7 ls (.int x2 :: .int x :: st) h Q ↔ if x2 < x then mm_wp d 25 14 ls st h Q else mm_wp d 25 10 ls st h Q := wp_icmpgt rfl rfl
theorem s25_10 : mm_wp d 25 10 ls st h Q ↔ mm_wp d 25 11 ls (.int (1 : Int32) :: st) h Q := wp_iconst rfl rfl
theorem s25_11 : mm_wp d 25 11 ls st h Q ↔ mm_wp d 25 15 ls st h Q := wp_goto rfl rfl
theorem s25_14 : mm_wp d 25 14 ls st h Q ↔ mm_wp d 25 15 ls (.int (0 : Int32) :: st) h Q := wp_iconst rfl rfl
theorem s25_15 : mm_wp d 25 15 ls (.int x :: st) h Q ↔ (x = 0 ∨ x = 1) ∧ Q (.inl (some (.int x))) h := wp_zret rfl rfl
/-! 26: LoadRoom$Cargo.isFull()Z -/
theorem s26_0 : mm_wp d 26 0 [.ref a] st h Q ↔ mm_wp d 26 1 [.ref a] (.ref a :: st) h Q := wp_aloadR_n rfl rfl
theorem s26_1 : mm_wp d 26 1 ls (.ref a :: st) h Q ↔ (mm_s h a).1 = 2 ∧ mm_wp d 26 4 ls (.int (mm_i h a 1) :: st) h Q := wp_getI rfl rfl (by decide) (by decide)
theorem s26_4 : mm_wp d 26 4 ls st h Q ↔ mm_wp d 26 6 ls (.int (8 : Int32) :: st) h Q := wp_bipush rfl rfl
theorem s26_6 : mm_wp d 26 6 ls (.int x2 :: .int x :: st) h Q ↔ if x < x2 then mm_wp d 26 13 ls st h Q else mm_wp d 26 9 ls st h Q := wp_icmplt rfl rfl
theorem s26_9 : mm_wp d 26 9 ls st h Q ↔ mm_wp d 26 10 ls (.int (1 : Int32) :: st) h Q := wp_iconst rfl rfl
theorem s26_10 : mm_wp d 26 10 ls st h Q ↔ mm_wp d 26 14 ls st h Q := wp_goto rfl rfl
theorem s26_13 : mm_wp d 26 13 ls st h Q ↔ mm_wp d 26 14 ls (.int (0 : Int32) :: st) h Q := wp_iconst rfl rfl
theorem s26_14 : mm_wp d 26 14 ls (.int x :: st) h Q ↔ (x = 0 ∨ x = 1) ∧ Q (.inl (some (.int x))) h := wp_zret rfl rfl
/-! 27: LoadRoom$Search.forget()V -/
theorem s27_0 : mm_wp d 27 0 [.ref a] st h Q ↔ mm_wp d 27 1 [.ref a] (.ref a :: st) h Q := wp_aloadR_n rfl rfl
theorem s27_1 : mm_wp d 27 1 ls st h Q ↔ mm_wp d 27 2 ls (.int (-1 : Int32) :: st) h Q := wp_iconst rfl rfl
theorem s27_2 : mm_wp d 27 2 ls (.int x :: .ref a :: st) h Q ↔ (mm_s h a).1 = 8 ∧ mm_wp d 27 5 ls st (mm_pi h a 9 x) Q := wp_putI rfl rfl
theorem s27_5 : mm_wp d 27 5 [.ref a] st h Q ↔ mm_wp d 27 6 [.ref a] (.ref a :: st) h Q := wp_aloadR_n rfl rfl
theorem s27_6 : mm_wp d 27 6 ls (.ref a :: st) h Q ↔ (mm_s h a).1 = 8 ∧ mm_wp d 27 9 ls (mm_o (mm_r h a 3) :: st) h Q := wp_getR rfl rfl
theorem s27_9 : mm_wp (d + 1) 27 9 ls [.ref a] h Q ↔ (mm_s h a).1 = 7 ∧ mm_wp d 28 0 [.ref a] [] h (mm_bk (d + 1) 27 9 ls [] Q) := wp_virtual rfl rfl ⟨by decide, rfl⟩ ⟨Nat.le_of_ble_eq_true rfl, Nat.le_of_ble_eq_true rfl⟩ rfl rfl rfl rfl rfl rfl
theorem s27_12 : mm_wp d 27 12 ls st h Q ↔ Q (.inl none) h := wp_vret rfl rfl
/-! 28: LoadRoom$Row.clear()V -/
theorem s28_0 : mm_wp d 28 0 [.ref a] st h Q ↔ mm_wp d 28 1 [.ref a] (.ref a :: st) h Q := wp_aloadR_n rfl rfl
theorem s28_1 : mm_wp d 28 1 ls st h Q ↔ mm_wp d 28 2 ls (.int (0 : Int32) :: st) h Q := wp_iconst rfl rfl
theorem s28_2 : mm_wp d 28 2 ls (.int x :: .ref a :: st) h Q ↔ (mm_s h a).1 = 7 ∧ mm_wp d 28 5 ls st (mm_pi h a 1 x) Q := wp_putI rfl rfl
theorem s28_5 : mm_wp d 28 5 [.ref a] st h Q ↔ mm_wp d 28 6 [.ref a] (.ref a :: st) h Q := wp_aloadR_n rfl rfl
theorem s28_6 : mm_wp d 28 6 ls st h Q ↔ mm_wp d 28 7 ls (.int (0 : Int32) :: st) h Q := wp_iconst rfl rfl
theorem s28_7 : mm_wp d 28 7 ls (.int x :: .ref a :: st) h Q ↔ (mm_s h a).1 = 7 ∧ mm_wp d 28 10 ls st (mm_pi h a 2 x) Q := wp_putI rfl rfl
theorem s28_10 : mm_wp d 28 10 [.ref a] st h Q ↔ mm_wp d 28 11 [.ref a] (.ref a :: st) h Q := wp_aloadR_n rfl rfl
theorem s28_11 : mm_wp d 28 11 ls st h Q ↔ mm_wp d 28 12 ls (.long (0 : Int64) :: st) h Q := wp_lconst rfl rfl
theorem s28_12 : mm_wp d 28 12 ls (.long w :: .ref a :: st) h Q ↔ (mm_s h a).1 = 7 ∧ mm_wp d 28 15 ls st (mm_pl h a 3 w) Q := wp_putL rfl rfl
theorem s28_15 : mm_wp d 28 15 ls st h Q ↔ Q (.inl none) h := wp_vret rfl rfl
/-! 29: LoadRoom$Cargo.add(IIII)I -/
theorem s29_0 : mm_wp d 29 0 [.ref a, l1, l2, l3, l4] st h Q ↔ mm_wp d 29 1 [.ref a, l1, l2, l3, l4] (.ref a :: st) h Q := wp_aloadR_n rfl rfl
theorem s29_1 : mm_wp (d + 1) 29 1 ls [.ref a] h Q ↔ (mm_s h a).1 = 2 ∧ mm_wp d 26 0 [.ref a] [] h (mm_bk (d + 1) 29 1 ls [] Q) := wp_virtual rfl rfl ⟨by decide, rfl⟩ ⟨Nat.le_of_ble_eq_true rfl, Nat.le_of_ble_eq_true rfl⟩ rfl rfl rfl rfl rfl rfl
theorem s29_4 : mm_wp d 29 4 ls (.int x :: st) h Q ↔ if x = 0 then mm_wp d 29 9 ls st h Q else mm_wp d 29 7 ls st h Q := wp_ifeq rfl rfl
theorem s29_7 : mm_wp d 29 7 ls st h Q ↔ mm_wp d 29 8 ls (.int (-1 : Int32) :: st) h Q := wp_iconst rfl rfl
theorem s29_8 : mm_wp d 29 8 ls (.int x :: st) h Q ↔ Q (.inl (some (.int x))) h := wp_iret rfl rfl
theorem s29_9 : mm_wp d 29 9 [.ref a, l1, l2, l3, l4] st h Q ↔ mm_wp d 29 10 [.ref a, l1, l2, l3, l4] (.ref a :: st) h Q := wp_aloadR_n rfl rfl
theorem s29_10 : mm_wp d 29 10 ls (.ref a :: st) h Q ↔ (mm_s h a).1 = 2 ∧ mm_wp d 29 13 ls (mm_o (mm_r h a 0) :: st) h Q := wp_getR rfl rfl
theorem s29_13 : mm_wp d 29 13 [.ref a, l1, l2, l3, l4] st h Q ↔ mm_wp d 29 14 [.ref a, l1, l2, l3, l4] (.ref a :: st) h Q := wp_aloadR_n rfl rfl
theorem s29_14 : mm_wp d 29 14 ls (.ref a :: st) h Q ↔ (mm_s h a).1 = 2 ∧ mm_wp d 29 17 ls (.int (mm_i h a 1) :: st) h Q := wp_getI rfl rfl (by decide) (by decide)
theorem s29_17 : mm_wp d 29 17 ls (.int x :: .ref a :: st) h Q ↔ (23 ≤ (mm_s h a).1 ∧ (mm_s h a).1 ≤ 26 ∧ mm_in x (mm_s h a).2 = true) ∧ mm_wp d 29 18 ls (mm_o (mm_r h a x.toNatClampNeg) :: st) h Q := wp_aaload rfl
theorem s29_18 : mm_wp d 29 18 [l0, .int x, l2, l3, l4] st h Q ↔ mm_wp d 29 19 [l0, .int x, l2, l3, l4] (.int x :: st) h Q := wp_iload_n rfl rfl
theorem s29_19 : mm_wp d 29 19 [l0, l1, .int x, l3, l4] st h Q ↔ mm_wp d 29 20 [l0, l1, .int x, l3, l4] (.int x :: st) h Q := wp_iload_n rfl rfl
theorem s29_20 : mm_wp d 29 20 [l0, l1, l2, .int x, l4] st h Q ↔ mm_wp d 29 21 [l0, l1, l2, .int x, l4] (.int x :: st) h Q := wp_iload_n rfl rfl
theorem s29_21 : mm_wp d 29 21 [l0, l1, l2, l3, .int x] st h Q ↔ mm_wp d 29 23 [l0, l1, l2, l3, .int x] (.int x :: st) h Q := wp_iload rfl rfl
theorem s29_23 : mm_wp (d + 1) 29 23 ls [.int x5, .int x4, .int x3, .int x2, .ref a] h Q ↔ (mm_s h a).1 = 5 ∧ mm_wp d 30 0 [.ref a, .int x2, .int x3, .int x4, .int x5] [] h (mm_bk (d + 1) 29 23 ls [] Q) := wp_virtual rfl rfl ⟨by decide, rfl⟩ ⟨Nat.le_of_ble_eq_true rfl, Nat.le_of_ble_eq_true rfl⟩ rfl rfl rfl rfl rfl rfl
theorem s29_26 : mm_wp d 29 26 [.ref a, l1, l2, l3, l4] st h Q ↔ mm_wp d 29 27 [.ref a, l1, l2, l3, l4] (.ref a :: st) h Q := wp_aloadR_n rfl rfl
theorem s29_27 : mm_wp d 29 27 ls (.ref a :: st) h Q ↔ mm_wp d 29 28 ls (.ref a :: .ref a :: st) h Q := wp_dupR rfl
theorem s29_28 : mm_wp d 29 28 ls (.ref a :: st) h Q ↔ (mm_s h a).1 = 2 ∧ mm_wp d 29 31 ls (.int (mm_i h a 1) :: st) h Q := wp_getI rfl rfl (by decide) (by decide)
theorem s29_31 : mm_wp d 29 31 ls st h Q ↔ mm_wp d 29 32 ls (.int (1 : Int32) :: st) h Q := wp_iconst rfl rfl
theorem s29_32 : mm_wp d 29 32 ls (.int x2 :: .int x :: st) h Q ↔ mm_wp d 29 33 ls (.int (x + x2) :: st) h Q := wp_iadd rfl
theorem s29_33 : mm_wp d 29 33 ls (.int x :: .ref a :: st) h Q ↔ (mm_s h a).1 = 2 ∧ mm_wp d 29 36 ls st (mm_pi h a 1 x) Q := wp_putI rfl rfl
theorem s29_36 : mm_wp d 29 36 [.ref a, l1, l2, l3, l4] st h Q ↔ mm_wp d 29 37 [.ref a, l1, l2, l3, l4] (.ref a :: st) h Q := wp_aloadR_n rfl rfl
theorem s29_37 : mm_wp d 29 37 ls (.ref a :: st) h Q ↔ (mm_s h a).1 = 2 ∧ mm_wp d 29 40 ls (.int (mm_i h a 1) :: st) h Q := wp_getI rfl rfl (by decide) (by decide)
theorem s29_40 : mm_wp d 29 40 ls st h Q ↔ mm_wp d 29 41 ls (.int (1 : Int32) :: st) h Q := wp_iconst rfl rfl
theorem s29_41 : mm_wp d 29 41 ls (.int x2 :: .int x :: st) h Q ↔ mm_wp d 29 42 ls (.int (x - x2) :: st) h Q := wp_isub rfl
theorem s29_42 : mm_wp d 29 42 ls (.int x :: st) h Q ↔ Q (.inl (some (.int x))) h := wp_iret rfl rfl
/-! 30: LoadRoom$Piece.become(IIII)V -/
theorem s30_0 : mm_wp d 30 0 [.ref a, l1, l2, l3, l4] st h Q ↔ mm_wp d 30 1 [.ref a, l1, l2, l3, l4] (.ref a :: st) h Q := wp_aloadR_n rfl rfl
theorem s30_1 : mm_wp d 30 1 [l0, .int x, l2, l3, l4] st h Q ↔ mm_wp d 30 2 [l0, .int x, l2, l3, l4] (.int x :: st) h Q := wp_iload_n rfl rfl
theorem s30_2 : mm_wp d 30 2 ls (.int x :: .ref a :: st) h Q ↔ (mm_s h a).1 = 5 ∧ mm_wp d 30 5 ls st (mm_pi h a 3 x) Q := wp_putI rfl rfl
theorem s30_5 : mm_wp d 30 5 [.ref a, l1, l2, l3, l4] st h Q ↔ mm_wp d 30 6 [.ref a, l1, l2, l3, l4] (.ref a :: st) h Q := wp_aloadR_n rfl rfl
theorem s30_6 : mm_wp d 30 6 [l0, l1, .int x, l3, l4] st h Q ↔ mm_wp d 30 7 [l0, l1, .int x, l3, l4] (.int x :: st) h Q := wp_iload_n rfl rfl
theorem s30_7 : mm_wp d 30 7 ls (.int x :: .ref a :: st) h Q ↔ (mm_s h a).1 = 5 ∧ mm_wp d 30 10 ls st (mm_pi h a 4 x) Q := wp_putI rfl rfl
theorem s30_10 : mm_wp d 30 10 [.ref a, l1, l2, l3, l4] st h Q ↔ mm_wp d 30 11 [.ref a, l1, l2, l3, l4] (.ref a :: st) h Q := wp_aloadR_n rfl rfl
theorem s30_11 : mm_wp d 30 11 [l0, l1, l2, .int x, l4] st h Q ↔ mm_wp d 30 12 [l0, l1, l2, .int x, l4] (.int x :: st) h Q := wp_iload_n rfl rfl
theorem s30_12 : mm_wp d 30 12 ls (.int x :: .ref a :: st) h Q ↔ (mm_s h a).1 = 5 ∧ mm_wp d 30 15 ls st (mm_pi h a 5 x) Q := wp_putI rfl rfl
theorem s30_15 : mm_wp d 30 15 [.ref a, l1, l2, l3, l4] st h Q ↔ mm_wp d 30 16 [.ref a, l1, l2, l3, l4] (.ref a :: st) h Q := wp_aloadR_n rfl rfl
theorem s30_16 : mm_wp d 30 16 [l0, l1, l2, l3, .int x] st h Q ↔ mm_wp d 30 18 [l0, l1, l2, l3, .int x] (.int x :: st) h Q := wp_iload rfl rfl
theorem s30_18 : mm_wp d 30 18 ls (.int x :: .ref a :: st) h Q ↔ (mm_s h a).1 = 5 ∧ mm_wp d 30 21 ls st (mm_pi h a 6 x) Q := wp_putI rfl rfl
theorem s30_21 : mm_wp d 30 21 [.ref a, l1, l2, l3, l4] st h Q ↔ mm_wp d 30 22 [.ref a, l1, l2, l3, l4] (.ref a :: st) h Q := wp_aloadR_n rfl rfl
theorem s30_22 : mm_wp d 30 22 ls st h Q ↔ mm_wp d 30 23 ls (.int (0 : Int32) :: st) h Q := wp_iconst rfl rfl
theorem s30_23 : mm_wp d 30 23 ls (.int x :: .ref a :: st) h Q ↔ (mm_s h a).1 = 5 ∧ mm_wp d 30 26 ls st (mm_pi h a 8 x) Q := wp_putI rfl rfl
theorem s30_26 : mm_wp d 30 26 [.ref a, l1, l2, l3, l4] st h Q ↔ mm_wp d 30 27 [.ref a, l1, l2, l3, l4] (.ref a :: st) h Q := wp_aloadR_n rfl rfl
theorem s30_27 : mm_wp d 30 27 ls st h Q ↔ mm_wp d 30 29 ls (.int (100000 : Int32) :: st) h Q := wp_ldcI rfl rfl
theorem s30_29 : mm_wp d 30 29 ls (.int x :: .ref a :: st) h Q ↔ (mm_s h a).1 = 5 ∧ mm_wp d 30 32 ls st (mm_pi h a 9 x) Q := wp_putI rfl rfl
theorem s30_32 : mm_wp d 30 32 [.ref a, l1, l2, l3, l4] st h Q ↔ mm_wp d 30 33 [.ref a, l1, l2, l3, l4] (.ref a :: st) h Q := wp_aloadR_n rfl rfl
theorem s30_33 : mm_wp d 30 33 ls st h Q ↔ mm_wp d 30 34 ls (.int (0 : Int32) :: st) h Q := wp_iconst rfl rfl
theorem s30_34 : mm_wp (d + 1) 30 34 ls [.int x2, .ref a] h Q ↔ (mm_s h a).1 = 5 ∧ mm_wp d 31 0 [.ref a, .int x2, mm_j] [] h (mm_bk (d + 1) 30 34 ls [] Q) := wp_virtual rfl rfl ⟨by decide, rfl⟩ ⟨Nat.le_of_ble_eq_true rfl, Nat.le_of_ble_eq_true rfl⟩ rfl rfl rfl rfl rfl rfl
theorem s30_37 : mm_wp d 30 37 ls st h Q ↔ Q (.inl none) h := wp_vret rfl rfl
/-! 31: LoadRoom$Piece.mark(I)V -/
theorem s31_0 : mm_wp d 31 0 [.ref a, l1, l2] st h Q ↔ mm_wp d 31 1 [.ref a, l1, l2] (.ref a :: st) h Q := wp_aloadR_n rfl rfl
theorem s31_1 : mm_wp d 31 1 [l0, .int x, l2] st h Q ↔ mm_wp d 31 2 [l0, .int x, l2] (.int x :: st) h Q := wp_iload_n rfl rfl
theorem s31_2 : mm_wp d 31 2 ls (.int x :: .ref a :: st) h Q ↔ (mm_s h a).1 = 5 ∧ mm_wp d 31 5 ls st (mm_pi h a 7 x) Q := wp_putI rfl rfl
theorem s31_5 : mm_wp d 31 5 [.ref a, l1, l2] st h Q ↔ mm_wp d 31 6 [.ref a, l1, l2] (.ref a :: st) h Q := wp_aloadR_n rfl rfl
theorem s31_6 : mm_wp d 31 6 ls st h Q ↔ mm_wp d 31 7 ls (.int (0 : Int32) :: st) h Q := wp_iconst rfl rfl
theorem s31_7 : mm_wp d 31 7 ls (.int x :: .ref a :: st) h Q ↔ (mm_s h a).1 = 5 ∧ mm_wp d 31 10 ls st (mm_pi h a 2 x) Q := wp_putI rfl rfl
theorem s31_10 : mm_wp d 31 10 ls st h Q ↔ mm_wp d 31 11 ls (.int (0 : Int32) :: st) h Q := wp_iconst rfl rfl
theorem s31_11 : mm_wp d 31 11 [l0, l1, l2] (.int x :: st) h Q ↔ mm_wp d 31 12 [l0, l1, .int x] st h Q := wp_istore_n rfl rfl
theorem s31_12 : mm_wp d 31 12 [l0, l1, .int x] st h Q ↔ mm_wp d 31 13 [l0, l1, .int x] (.int x :: st) h Q := wp_iload_n rfl rfl
theorem s31_13 : mm_wp d 31 13 ls st h Q ↔ mm_wp d 31 15 ls (.int (6 : Int32) :: st) h Q := wp_bipush rfl rfl
theorem s31_15 : mm_wp d 31 15 ls (.int x2 :: .int x :: st) h Q ↔ if x2 ≤ x then mm_wp d 31 74 ls st h Q else mm_wp d 31 18 ls st h Q := wp_icmpge rfl rfl
theorem s31_18 : mm_wp d 31 18 [.ref a, l1, l2] st h Q ↔ mm_wp d 31 19 [.ref a, l1, l2] (.ref a :: st) h Q := wp_aloadR_n rfl rfl
theorem s31_19 : mm_wp d 31 19 ls (.ref a :: st) h Q ↔ (mm_s h a).1 = 5 ∧ mm_wp d 31 22 ls (mm_o (mm_r h a 1) :: st) h Q := wp_getR rfl rfl
theorem s31_22 : mm_wp d 31 22 [l0, l1, .int x] st h Q ↔ mm_wp d 31 23 [l0, l1, .int x] (.int x :: st) h Q := wp_iload_n rfl rfl
theorem s31_23 : mm_wp d 31 23 [.ref a, l1, l2] st h Q ↔ mm_wp d 31 24 [.ref a, l1, l2] (.ref a :: st) h Q := wp_aloadR_n rfl rfl
theorem s31_24 : mm_wp d 31 24 [l0, l1, .int x] st h Q ↔ mm_wp d 31 25 [l0, l1, .int x] (.int x :: st) h Q := wp_iload_n rfl rfl
theorem s31_25 : mm_wp (d + 1) 31 25 ls [.int x2, .ref a, t1, t0] h Q ↔ (mm_s h a).1 = 5 ∧ mm_wp d 32 0 [.ref a, .int x2, mm_j] [] h (mm_bk (d + 1) 31 25 ls [t1, t0] Q) := wp_virtual rfl rfl ⟨by decide, rfl⟩ ⟨Nat.le_of_ble_eq_true rfl, Nat.le_of_ble_eq_true rfl⟩ rfl rfl rfl rfl rfl rfl
theorem s31_28 : mm_wp d 31 28 ls (.int x :: st) h Q ↔ if x = 0 then mm_wp d 31 43 ls st h Q else mm_wp d 31 31 ls st h Q := wp_ifeq rfl rfl
theorem s31_31 : mm_wp d 31 31 [.ref a, l1, l2] st h Q ↔ mm_wp d 31 32 [.ref a, l1, l2] (.ref a :: st) h Q := wp_aloadR_n rfl rfl
theorem s31_32 : mm_wp d 31 32 [l0, l1, .int x] st h Q ↔ mm_wp d 31 33 [l0, l1, .int x] (.int x :: st) h Q := wp_iload_n rfl rfl
theorem s31_33 : mm_wp (d + 1) 31 33 ls [.int x2, .ref a, t1, t0] h Q ↔ (mm_s h a).1 = 5 ∧ mm_wp d 38 0 [.ref a, .int x2] [] h (mm_bk (d + 1) 31 33 ls [t1, t0] Q) := wp_virtual rfl rfl ⟨by decide, rfl⟩ ⟨Nat.le_of_ble_eq_true rfl, Nat.le_of_ble_eq_true rfl⟩ rfl rfl rfl rfl rfl rfl
theorem s31_36 : mm_wp d 31 36 ls (.int x :: st) h Q ↔ if x = 0 then mm_wp d 31 43 ls st h Q else mm_wp d 31 39 ls st h Q := wp_ifeq rfl rfl
theorem s31_39 : mm_wp d 31 39 ls st h Q ↔ mm_wp d 31 40 ls (.int (1 : Int32) :: st) h Q := wp_iconst rfl rfl
theorem s31_40 : mm_wp d 31 40 ls st h Q ↔ mm_wp d 31 44 ls st h Q := wp_goto rfl rfl
theorem s31_43 : mm_wp d 31 43 ls st h Q ↔ mm_wp d 31 44 ls (.int (0 : Int32) :: st) h Q := wp_iconst rfl rfl
theorem s31_44 : mm_wp d 31 44 ls (.int x2 :: .int x :: .ref a :: st) h Q ↔ ((mm_s h a).1 = 22 ∧ (x2 = 0 ∨ x2 = 1) ∧ mm_in x (mm_s h a).2 = true) ∧ mm_wp d 31 45 ls st (mm_pi h a x.toNatClampNeg x2) Q := wp_bastore rfl
theorem s31_45 : mm_wp d 31 45 [.ref a, l1, l2] st h Q ↔ mm_wp d 31 46 [.ref a, l1, l2] (.ref a :: st) h Q := wp_aloadR_n rfl rfl
theorem s31_46 : mm_wp d 31 46 ls (.ref a :: st) h Q ↔ mm_wp d 31 47 ls (.ref a :: .ref a :: st) h Q := wp_dupR rfl
theorem s31_47 : mm_wp d 31 47 ls (.ref a :: st) h Q ↔ (mm_s h a).1 = 5 ∧ mm_wp d 31 50 ls (.int (mm_i h a 2) :: st) h Q := wp_getI rfl rfl (by decide) (by decide)
theorem s31_50 : mm_wp d 31 50 [.ref a, l1, l2] st h Q ↔ mm_wp d 31 51 [.ref a, l1, l2] (.ref a :: st) h Q := wp_aloadR_n rfl rfl
theorem s31_51 : mm_wp d 31 51 ls (.ref a :: st) h Q ↔ (mm_s h a).1 = 5 ∧ mm_wp d 31 54 ls (mm_o (mm_r h a 1) :: st) h Q := wp_getR rfl rfl
theorem s31_54 : mm_wp d 31 54 [l0, l1, .int x] st h Q ↔ mm_wp d 31 55 [l0, l1, .int x] (.int x :: st) h Q := wp_iload_n rfl rfl
theorem s31_55 : mm_wp d 31 55 ls (.int x :: .ref a :: st) h Q ↔ ((mm_s h a).1 = 22 ∧ mm_in x (mm_s h a).2 = true) ∧ mm_wp d 31 56 ls (.int (mm_i h a x.toNatClampNeg) :: st) h Q := wp_baload rfl
theorem s31_56 : mm_wp d 31 56 ls (.int x :: st) h Q ↔ if x = 0 then mm_wp d 31 63 ls st h Q else mm_wp d 31 59 ls st h Q := wp_ifeq rfl rfl
theorem s31_59 : mm_wp d 31 59 ls st h Q ↔ mm_wp d 31 60 ls (.int (1 : Int32) :: st) h Q := wp_iconst rfl rfl
theorem s31_60 : mm_wp d 31 60 ls st h Q ↔ mm_wp d 31 64 ls st h Q := wp_goto rfl rfl
theorem s31_63 : mm_wp d 31 63 ls st h Q ↔ mm_wp d 31 64 ls (.int (0 : Int32) :: st) h Q := wp_iconst rfl rfl
theorem s31_64 : mm_wp d 31 64 ls (.int x2 :: .int x :: st) h Q ↔ mm_wp d 31 65 ls (.int (x + x2) :: st) h Q := wp_iadd rfl
theorem s31_65 : mm_wp d 31 65 ls (.int x :: .ref a :: st) h Q ↔ (mm_s h a).1 = 5 ∧ mm_wp d 31 68 ls st (mm_pi h a 2 x) Q := wp_putI rfl rfl
theorem s31_68 : mm_wp d 31 68 [l0, l1, .int x] st h Q ↔ mm_wp d 31 71 [l0, l1, .int (x + (1 : Int32))] st h Q := wp_iinc rfl rfl rfl rfl
theorem s31_71 : mm_wp d 31 71 ls st h Q ↔ mm_wp d 31 12 ls st h Q := wp_goto rfl rfl
theorem s31_74 : mm_wp d 31 74 ls st h Q ↔ Q (.inl none) h := wp_vret rfl rfl
/-! 32: LoadRoom$Piece.counts(I)Z -/
theorem s32_0 : mm_wp d 32 0 [.ref a, l1, l2] st h Q ↔ mm_wp d 32 1 [.ref a, l1, l2] (.ref a :: st) h Q := wp_aloadR_n rfl rfl
theorem s32_1 : mm_wp d 32 1 [l0, .int x, l2] st h Q ↔ mm_wp d 32 2 [l0, .int x, l2] (.int x :: st) h Q := wp_iload_n rfl rfl
theorem s32_2 : mm_wp (d + 1) 32 2 ls [.int x2, .ref a] h Q ↔ (mm_s h a).1 = 5 ∧ mm_wp d 33 0 [.ref a, .int x2] [] h (mm_bk (d + 1) 32 2 ls [] Q) := wp_virtual rfl rfl ⟨by decide, rfl⟩ ⟨Nat.le_of_ble_eq_true rfl, Nat.le_of_ble_eq_true rfl⟩ rfl rfl rfl rfl rfl rfl
theorem s32_5 : mm_wp d 32 5 ls (.int x :: st) h Q ↔ if x = 0 then mm_wp d 32 8 ls st h Q else mm_wp d 32 10 ls st h Q := wp_ifne rfl rfl
theorem s32_8 : mm_wp d 32 8 ls st h Q ↔ mm_wp d 32 9 ls (.int (0 : Int32) :: st) h Q := wp_iconst rfl rfl
theorem s32_9 : mm_wp d 32 9 ls (.int x :: st) h Q ↔ (x = 0 ∨ x = 1) ∧ Q (.inl (some (.int x))) h := wp_zret rfl rfl
theorem s32_10 : mm_wp d 32 10 ls st h Q ↔ mm_wp d 32 11 ls (.int (0 : Int32) :: st) h Q := wp_iconst rfl rfl
theorem s32_11 : mm_wp d 32 11 [l0, l1, l2] (.int x :: st) h Q ↔ mm_wp d 32 12 [l0, l1, .int x] st h Q := wp_istore_n rfl rfl
theorem s32_12 : mm_wp d 32 12 [l0, l1, .int x] st h Q ↔ mm_wp d 32 13 [l0, l1, .int x] (.int x :: st) h Q := wp_iload_n rfl rfl
theorem s32_13 : mm_wp d 32 13 [l0, .int x, l2] st h Q ↔ mm_wp d 32 14 [l0, .int x, l2] (.int x :: st) h Q := wp_iload_n rfl rfl
theorem s32_14 : mm_wp d 32 14 ls (.int x2 :: .int x :: st) h Q ↔ if x2 ≤ x then mm_wp d 32 42 ls st h Q else mm_wp d 32 17 ls st h Q := wp_icmpge rfl rfl
theorem s32_17 : mm_wp d 32 17 [.ref a, l1, l2] st h Q ↔ mm_wp d 32 18 [.ref a, l1, l2] (.ref a :: st) h Q := wp_aloadR_n rfl rfl
theorem s32_18 : mm_wp d 32 18 [l0, l1, .int x] st h Q ↔ mm_wp d 32 19 [l0, l1, .int x] (.int x :: st) h Q := wp_iload_n rfl rfl
theorem s32_19 : mm_wp (d + 1) 32 19 ls [.int x2, .ref a] h Q ↔ (mm_s h a).1 = 5 ∧ mm_wp d 33 0 [.ref a, .int x2] [] h (mm_bk (d + 1) 32 19 ls [] Q) := wp_virtual rfl rfl ⟨by decide, rfl⟩ ⟨Nat.le_of_ble_eq_true rfl, Nat.le_of_ble_eq_true rfl⟩ rfl rfl rfl rfl rfl rfl
theorem s32_22 : mm_wp d 32 22 ls (.int x :: st) h Q ↔ if x = 0 then mm_wp d 32 36 ls st h Q else mm_wp d 32 25 ls st h Q := wp_ifeq rfl rfl
theorem s32_25 : mm_wp d 32 25 [.ref a, l1, l2] st h Q ↔ mm_wp d 32 26 [.ref a, l1, l2] (.ref a :: st) h Q := wp_aloadR_n rfl rfl
theorem s32_26 : mm_wp d 32 26 [l0, l1, .int x] st h Q ↔ mm_wp d 32 27 [l0, l1, .int x] (.int x :: st) h Q := wp_iload_n rfl rfl
theorem s32_27 : mm_wp d 32 27 [l0, .int x, l2] st h Q ↔ mm_wp d 32 28 [l0, .int x, l2] (.int x :: st) h Q := wp_iload_n rfl rfl
theorem s32_28 : mm_wp (d + 1) 32 28 ls [.int x3, .int x2, .ref a] h Q ↔ (mm_s h a).1 = 5 ∧ mm_wp d 34 0 [.ref a, .int x2, .int x3] [] h (mm_bk (d + 1) 32 28 ls [] Q) := wp_virtual rfl rfl ⟨by decide, rfl⟩ ⟨Nat.le_of_ble_eq_true rfl, Nat.le_of_ble_eq_true rfl⟩ rfl rfl rfl rfl rfl rfl
theorem s32_31 : mm_wp d 32 31 ls (.int x :: st) h Q ↔ if x = 0 then mm_wp d 32 36 ls st h Q else mm_wp d 32 34 ls st h Q := wp_ifeq rfl rfl
theorem s32_34 : mm_wp d 32 34 ls st h Q ↔ mm_wp d 32 35 ls (.int (0 : Int32) :: st) h Q := wp_iconst rfl rfl
theorem s32_35 : mm_wp d 32 35 ls (.int x :: st) h Q ↔ (x = 0 ∨ x = 1) ∧ Q (.inl (some (.int x))) h := wp_zret rfl rfl
theorem s32_36 : mm_wp d 32 36 [l0, l1, .int x] st h Q ↔ mm_wp d 32 39 [l0, l1, .int (x + (1 : Int32))] st h Q := wp_iinc rfl rfl rfl rfl
theorem s32_39 : mm_wp d 32 39 ls st h Q ↔ mm_wp d 32 12 ls st h Q := wp_goto rfl rfl
theorem s32_42 : mm_wp d 32 42 ls st h Q ↔ mm_wp d 32 43 ls (.int (1 : Int32) :: st) h Q := wp_iconst rfl rfl
theorem s32_43 : mm_wp d 32 43 ls (.int x :: st) h Q ↔ (x = 0 ∨ x = 1) ∧ Q (.inl (some (.int x))) h := wp_zret rfl rfl
/-! 33: LoadRoom$Piece.allows(I)Z -/
theorem s33_0 : mm_wp d 33 0 [l0, .int x] st h Q ↔ mm_wp d 33 1 [l0, .int x] (.int x :: st) h Q := wp_iload_n rfl rfl
theorem s33_1 : mm_wp d 33 1 ls (.int x :: st) h Q ↔ if x = 0 then mm_wp d 33 4 ls st h Q else mm_wp d 33 6 ls st h Q := wp_ifne rfl rfl
theorem s33_4 : mm_wp d 33 4 ls st h Q ↔ mm_wp d 33 5 ls (.int (1 : Int32) :: st) h Q := wp_iconst rfl rfl
theorem s33_5 : mm_wp d 33 5 ls (.int x :: st) h Q ↔ (x = 0 ∨ x = 1) ∧ Q (.inl (some (.int x))) h := wp_zret rfl rfl
theorem s33_6 : mm_wp d 33 6 [l0, .int x] st h Q ↔ mm_wp d 33 7 [l0, .int x] (.int x :: st) h Q := wp_iload_n rfl rfl
theorem s33_7 : mm_wp d 33 7 ls st h Q ↔ mm_wp d 33 8 ls (.int (1 : Int32) :: st) h Q := wp_iconst rfl rfl
theorem s33_8 : mm_wp d 33 8 ls (.int x2 :: .int x :: st) h Q ↔ if x = x2 then mm_wp d 33 11 ls st h Q else mm_wp d 33 29 ls st h Q := wp_icmpne rfl rfl
theorem s33_11 : mm_wp d 33 11 [.ref a, l1] st h Q ↔ mm_wp d 33 12 [.ref a, l1] (.ref a :: st) h Q := wp_aloadR_n rfl rfl
theorem s33_12 : mm_wp d 33 12 ls (.ref a :: st) h Q ↔ (mm_s h a).1 = 5 ∧ mm_wp d 33 15 ls (.int (mm_i h a 7) :: st) h Q := wp_getI rfl rfl (by decide) (by decide)
theorem s33_15 : mm_wp d 33 15 ls st h Q ↔ mm_wp d 33 16 ls (.int (1 : Int32) :: st) h Q := wp_iconst rfl rfl
theorem s33_16 : mm_wp d 33 16 ls (.int x2 :: .int x :: st) h Q ↔ mm_wp d 33 17 ls (.int (x &&& x2) :: st) h Q := wp_iand rfl
theorem s33_17 : mm_wp d 33 17 ls st h Q ↔ mm_wp d 33 18 ls (.int (1 : Int32) :: st) h Q := wp_iconst rfl rfl
theorem s33_18 : mm_wp d 33 18 ls (.int x2 :: .int x :: st) h Q ↔ if x = x2 then mm_wp d 33 21 ls st h Q else mm_wp d 33 25 ls st h Q := wp_icmpne rfl rfl
theorem s33_21 : mm_wp d 33 21 ls st h Q ↔ mm_wp d 33 22 ls (.int (1 : Int32) :: st) h Q := wp_iconst rfl rfl
theorem s33_22 : mm_wp d 33 22 ls st h Q ↔ mm_wp d 33 42 ls st h Q := wp_goto rfl rfl
theorem s33_25 : mm_wp d 33 25 ls st h Q ↔ mm_wp d 33 26 ls (.int (0 : Int32) :: st) h Q := wp_iconst rfl rfl
theorem s33_26 : mm_wp d 33 26 ls st h Q ↔ mm_wp d 33 42 ls st h Q := wp_goto rfl rfl
theorem s33_29 : mm_wp d 33 29 [.ref a, l1] st h Q ↔ mm_wp d 33 30 [.ref a, l1] (.ref a :: st) h Q := wp_aloadR_n rfl rfl
theorem s33_30 : mm_wp d 33 30 ls (.ref a :: st) h Q ↔ (mm_s h a).1 = 5 ∧ mm_wp d 33 33 ls (.int (mm_i h a 7) :: st) h Q := wp_getI rfl rfl (by decide) (by decide)
theorem s33_33 : mm_wp d 33 33 ls st h Q ↔ mm_wp d 33 34 ls (.int (2 : Int32) :: st) h Q := wp_iconst rfl rfl
theorem s33_34 : mm_wp d 33 34 ls (.int x2 :: .int x :: st) h Q ↔ if x < x2 then mm_wp d 33 41 ls st h Q else mm_wp d 33 37 ls st h Q := wp_icmplt rfl rfl
theorem s33_37 : mm_wp d 33 37 ls st h Q ↔ mm_wp d 33 38 ls (.int (1 : Int32) :: st) h Q := wp_iconst rfl rfl
theorem s33_38 : mm_wp d 33 38 ls st h Q ↔ mm_wp d 33 42 ls st h Q := wp_goto rfl rfl
theorem s33_41 : mm_wp d 33 41 ls st h Q ↔ mm_wp d 33 42 ls (.int (0 : Int32) :: st) h Q := wp_iconst rfl rfl
theorem s33_42 : mm_wp d 33 42 ls (.int x :: st) h Q ↔ (x = 0 ∨ x = 1) ∧ Q (.inl (some (.int x))) h := wp_zret rfl rfl
/-! 34: LoadRoom$Piece.looksAlike(II)Z -/
theorem s34_0 : mm_wp d 34 0 [.ref a, l1, l2] st h Q ↔ mm_wp d 34 1 [.ref a, l1, l2] (.ref a :: st) h Q := wp_aloadR_n rfl rfl
theorem s34_1 : mm_wp d 34 1 [l0, .int x, l2] st h Q ↔ mm_wp d 34 2 [l0, .int x, l2] (.int x :: st) h Q := wp_iload_n rfl rfl
theorem s34_2 : mm_wp (d + 1) 34 2 ls [.int x2, .ref a] h Q ↔ (mm_s h a).1 = 5 ∧ mm_wp d 35 0 [.ref a, .int x2] [] h (mm_bk (d + 1) 34 2 ls [] Q) := wp_virtual rfl rfl ⟨by decide, rfl⟩ ⟨Nat.le_of_ble_eq_true rfl, Nat.le_of_ble_eq_true rfl⟩ rfl rfl rfl rfl rfl rfl
theorem s34_5 : mm_wp d 34 5 [.ref a, l1, l2] st h Q ↔ mm_wp d 34 6 [.ref a, l1, l2] (.ref a :: st) h Q := wp_aloadR_n rfl rfl
theorem s34_6 : mm_wp d 34 6 [l0, l1, .int x] st h Q ↔ mm_wp d 34 7 [l0, l1, .int x] (.int x :: st) h Q := wp_iload_n rfl rfl
theorem s34_7 : mm_wp (d + 1) 34 7 ls [.int x2, .ref a, t0] h Q ↔ (mm_s h a).1 = 5 ∧ mm_wp d 35 0 [.ref a, .int x2] [] h (mm_bk (d + 1) 34 7 ls [t0] Q) := wp_virtual rfl rfl ⟨by decide, rfl⟩ ⟨Nat.le_of_ble_eq_true rfl, Nat.le_of_ble_eq_true rfl⟩ rfl rfl rfl rfl rfl rfl
theorem s34_10 : mm_wp d 34 10 ls (.int x2 :: .int x :: st) h Q ↔ if x = x2 then mm_wp d 34 13 ls st h Q else mm_wp d 34 43 ls st h Q := wp_icmpne rfl rfl
theorem s34_13 : mm_wp d 34 13 [.ref a, l1, l2] st h Q ↔ mm_wp d 34 14 [.ref a, l1, l2] (.ref a :: st) h Q := wp_aloadR_n rfl rfl
theorem s34_14 : mm_wp d 34 14 [l0, .int x, l2] st h Q ↔ mm_wp d 34 15 [l0, .int x, l2] (.int x :: st) h Q := wp_iload_n rfl rfl
theorem s34_15 : mm_wp (d + 1) 34 15 ls [.int x2, .ref a] h Q ↔ (mm_s h a).1 = 5 ∧ mm_wp d 36 0 [.ref a, .int x2] [] h (mm_bk (d + 1) 34 15 ls [] Q) := wp_virtual rfl rfl ⟨by decide, rfl⟩ ⟨Nat.le_of_ble_eq_true rfl, Nat.le_of_ble_eq_true rfl⟩ rfl rfl rfl rfl rfl rfl
theorem s34_18 : mm_wp d 34 18 [.ref a, l1, l2] st h Q ↔ mm_wp d 34 19 [.ref a, l1, l2] (.ref a :: st) h Q := wp_aloadR_n rfl rfl
theorem s34_19 : mm_wp d 34 19 [l0, l1, .int x] st h Q ↔ mm_wp d 34 20 [l0, l1, .int x] (.int x :: st) h Q := wp_iload_n rfl rfl
theorem s34_20 : mm_wp (d + 1) 34 20 ls [.int x2, .ref a, t0] h Q ↔ (mm_s h a).1 = 5 ∧ mm_wp d 36 0 [.ref a, .int x2] [] h (mm_bk (d + 1) 34 20 ls [t0] Q) := wp_virtual rfl rfl ⟨by decide, rfl⟩ ⟨Nat.le_of_ble_eq_true rfl, Nat.le_of_ble_eq_true rfl⟩ rfl rfl rfl rfl rfl rfl
theorem s34_23 : mm_wp d 34 23 ls (.int x2 :: .int x :: st) h Q ↔ if x = x2 then mm_wp d 34 26 ls st h Q else mm_wp d 34 43 ls st h Q := wp_icmpne rfl rfl
theorem s34_26 : mm_wp d 34 26 [.ref a, l1, l2] st h Q ↔ mm_wp d 34 27 [.ref a, l1, l2] (.ref a :: st) h Q := wp_aloadR_n rfl rfl
theorem s34_27 : mm_wp d 34 27 [l0, .int x, l2] st h Q ↔ mm_wp d 34 28 [l0, .int x, l2] (.int x :: st) h Q := wp_iload_n rfl rfl
theorem s34_28 : mm_wp (d + 1) 34 28 ls [.int x2, .ref a] h Q ↔ (mm_s h a).1 = 5 ∧ mm_wp d 37 0 [.ref a, .int x2] [] h (mm_bk (d + 1) 34 28 ls [] Q) := wp_virtual rfl rfl ⟨by decide, rfl⟩ ⟨Nat.le_of_ble_eq_true rfl, Nat.le_of_ble_eq_true rfl⟩ rfl rfl rfl rfl rfl rfl
theorem s34_31 : mm_wp d 34 31 [.ref a, l1, l2] st h Q ↔ mm_wp d 34 32 [.ref a, l1, l2] (.ref a :: st) h Q := wp_aloadR_n rfl rfl
theorem s34_32 : mm_wp d 34 32 [l0, l1, .int x] st h Q ↔ mm_wp d 34 33 [l0, l1, .int x] (.int x :: st) h Q := wp_iload_n rfl rfl
theorem s34_33 : mm_wp (d + 1) 34 33 ls [.int x2, .ref a, t0] h Q ↔ (mm_s h a).1 = 5 ∧ mm_wp d 37 0 [.ref a, .int x2] [] h (mm_bk (d + 1) 34 33 ls [t0] Q) := wp_virtual rfl rfl ⟨by decide, rfl⟩ ⟨Nat.le_of_ble_eq_true rfl, Nat.le_of_ble_eq_true rfl⟩ rfl rfl rfl rfl rfl rfl
theorem s34_36 : mm_wp d 34 36 ls (.int x2 :: .int x :: st) h Q ↔ if x = x2 then mm_wp d 34 39 ls st h Q else mm_wp d 34 43 ls st h Q := wp_icmpne rfl rfl
theorem s34_39 : mm_wp d 34 39 ls st h Q ↔ mm_wp d 34 40 ls (.int (1 : Int32) :: st) h Q := wp_iconst rfl rfl
theorem s34_40 : mm_wp d 34 40 ls st h Q ↔ mm_wp d 34 44 ls st h Q := wp_goto rfl rfl
theorem s34_43 : mm_wp d 34 43 ls st h Q ↔ mm_wp d 34 44 ls (.int (0 : Int32) :: st) h Q := wp_iconst rfl rfl
theorem s34_44 : mm_wp d 34 44 ls (.int x :: st) h Q ↔ (x = 0 ∨ x = 1) ∧ Q (.inl (some (.int x))) h := wp_zret rfl rfl
/-! 35: LoadRoom$Piece.widthIn(I)I -/
theorem s35_0 : mm_wp d 35 0 [l0, .int x] st h Q ↔ mm_wp d 35 1 [l0, .int x] (.int x :: st) h Q := wp_iload_n rfl rfl
theorem s35_1d (hx : x.toInt < 1 ∨ 5 < x.toInt) : mm_wp d 35 1 ls (.int x :: st) h Q ↔ mm_wp d 35 46 ls st h Q := wp_tabOut rfl hx rfl
theorem s35_1_1 : mm_wp d 35 1 ls (.int (1 : Int32) :: st) h Q ↔ mm_wp d 35 36 ls st h Q := wp_tabIn rfl (by decide) rfl
theorem s35_1_2 : mm_wp d 35 1 ls (.int (2 : Int32) :: st) h Q ↔ mm_wp d 35 41 ls st h Q := wp_tabIn rfl (by decide) rfl
theorem s35_1_3 : mm_wp d 35 1 ls (.int (3 : Int32) :: st) h Q ↔ mm_wp d 35 36 ls st h Q := wp_tabIn rfl (by decide) rfl
theorem s35_1_4 : mm_wp d 35 1 ls (.int (4 : Int32) :: st) h Q ↔ mm_wp d 35 46 ls st h Q := wp_tabIn rfl (by decide) rfl
theorem s35_1_5 : mm_wp d 35 1 ls (.int (5 : Int32) :: st) h Q ↔ mm_wp d 35 41 ls st h Q := wp_tabIn rfl (by decide) rfl
theorem s35_36 : mm_wp d 35 36 [.ref a, l1] st h Q ↔ mm_wp d 35 37 [.ref a, l1] (.ref a :: st) h Q := wp_aloadR_n rfl rfl
theorem s35_37 : mm_wp d 35 37 ls (.ref a :: st) h Q ↔ (mm_s h a).1 = 5 ∧ mm_wp d 35 40 ls (.int (mm_i h a 5) :: st) h Q := wp_getI rfl rfl (by decide) (by decide)
theorem s35_40 : mm_wp d 35 40 ls (.int x :: st) h Q ↔ Q (.inl (some (.int x))) h := wp_iret rfl rfl
theorem s35_41 : mm_wp d 35 41 [.ref a, l1] st h Q ↔ mm_wp d 35 42 [.ref a, l1] (.ref a :: st) h Q := wp_aloadR_n rfl rfl
theorem s35_42 : mm_wp d 35 42 ls (.ref a :: st) h Q ↔ (mm_s h a).1 = 5 ∧ mm_wp d 35 45 ls (.int (mm_i h a 4) :: st) h Q := wp_getI rfl rfl (by decide) (by decide)
theorem s35_45 : mm_wp d 35 45 ls (.int x :: st) h Q ↔ Q (.inl (some (.int x))) h := wp_iret rfl rfl
theorem s35_46 : mm_wp d 35 46 [.ref a, l1] st h Q ↔ mm_wp d 35 47 [.ref a, l1] (.ref a :: st) h Q := wp_aloadR_n rfl rfl
theorem s35_47 : mm_wp d 35 47 ls (.ref a :: st) h Q ↔ (mm_s h a).1 = 5 ∧ mm_wp d 35 50 ls (.int (mm_i h a 3) :: st) h Q := wp_getI rfl rfl (by decide) (by decide)
theorem s35_50 : mm_wp d 35 50 ls (.int x :: st) h Q ↔ Q (.inl (some (.int x))) h := wp_iret rfl rfl
/-! 36: LoadRoom$Piece.heightIn(I)I -/
theorem s36_0 : mm_wp d 36 0 [l0, .int x] st h Q ↔ mm_wp d 36 1 [l0, .int x] (.int x :: st) h Q := wp_iload_n rfl rfl
theorem s36_1d (hx : x.toInt < 2 ∨ 5 < x.toInt) : mm_wp d 36 1 ls (.int x :: st) h Q ↔ mm_wp d 36 42 ls st h Q := wp_tabOut rfl hx rfl
theorem s36_1_2 : mm_wp d 36 1 ls (.int (2 : Int32) :: st) h Q ↔ mm_wp d 36 32 ls st h Q := wp_tabIn rfl (by decide) rfl
theorem s36_1_3 : mm_wp d 36 1 ls (.int (3 : Int32) :: st) h Q ↔ mm_wp d 36 32 ls st h Q := wp_tabIn rfl (by decide) rfl
theorem s36_1_4 : mm_wp d 36 1 ls (.int (4 : Int32) :: st) h Q ↔ mm_wp d 36 37 ls st h Q := wp_tabIn rfl (by decide) rfl
theorem s36_1_5 : mm_wp d 36 1 ls (.int (5 : Int32) :: st) h Q ↔ mm_wp d 36 37 ls st h Q := wp_tabIn rfl (by decide) rfl
theorem s36_32 : mm_wp d 36 32 [.ref a, l1] st h Q ↔ mm_wp d 36 33 [.ref a, l1] (.ref a :: st) h Q := wp_aloadR_n rfl rfl
theorem s36_33 : mm_wp d 36 33 ls (.ref a :: st) h Q ↔ (mm_s h a).1 = 5 ∧ mm_wp d 36 36 ls (.int (mm_i h a 3) :: st) h Q := wp_getI rfl rfl (by decide) (by decide)
theorem s36_36 : mm_wp d 36 36 ls (.int x :: st) h Q ↔ Q (.inl (some (.int x))) h := wp_iret rfl rfl
theorem s36_37 : mm_wp d 36 37 [.ref a, l1] st h Q ↔ mm_wp d 36 38 [.ref a, l1] (.ref a :: st) h Q := wp_aloadR_n rfl rfl
theorem s36_38 : mm_wp d 36 38 ls (.ref a :: st) h Q ↔ (mm_s h a).1 = 5 ∧ mm_wp d 36 41 ls (.int (mm_i h a 5) :: st) h Q := wp_getI rfl rfl (by decide) (by decide)
theorem s36_41 : mm_wp d 36 41 ls (.int x :: st) h Q ↔ Q (.inl (some (.int x))) h := wp_iret rfl rfl
theorem s36_42 : mm_wp d 36 42 [.ref a, l1] st h Q ↔ mm_wp d 36 43 [.ref a, l1] (.ref a :: st) h Q := wp_aloadR_n rfl rfl
theorem s36_43 : mm_wp d 36 43 ls (.ref a :: st) h Q ↔ (mm_s h a).1 = 5 ∧ mm_wp d 36 46 ls (.int (mm_i h a 4) :: st) h Q := wp_getI rfl rfl (by decide) (by decide)
theorem s36_46 : mm_wp d 36 46 ls (.int x :: st) h Q ↔ Q (.inl (some (.int x))) h := wp_iret rfl rfl
/-! 37: LoadRoom$Piece.depthIn(I)I -/
theorem s37_0 : mm_wp d 37 0 [l0, .int x] st h Q ↔ mm_wp d 37 1 [l0, .int x] (.int x :: st) h Q := wp_iload_n rfl rfl
theorem s37_1d (hx : x.toInt < 1 ∨ 5 < x.toInt) : mm_wp d 37 1 ls (.int x :: st) h Q ↔ mm_wp d 37 46 ls st h Q := wp_tabOut rfl hx rfl
theorem s37_1_1 : mm_wp d 37 1 ls (.int (1 : Int32) :: st) h Q ↔ mm_wp d 37 36 ls st h Q := wp_tabIn rfl (by decide) rfl
theorem s37_1_2 : mm_wp d 37 1 ls (.int (2 : Int32) :: st) h Q ↔ mm_wp d 37 46 ls st h Q := wp_tabIn rfl (by decide) rfl
theorem s37_1_3 : mm_wp d 37 1 ls (.int (3 : Int32) :: st) h Q ↔ mm_wp d 37 41 ls st h Q := wp_tabIn rfl (by decide) rfl
theorem s37_1_4 : mm_wp d 37 1 ls (.int (4 : Int32) :: st) h Q ↔ mm_wp d 37 41 ls st h Q := wp_tabIn rfl (by decide) rfl
theorem s37_1_5 : mm_wp d 37 1 ls (.int (5 : Int32) :: st) h Q ↔ mm_wp d 37 36 ls st h Q := wp_tabIn rfl (by decide) rfl
theorem s37_36 : mm_wp d 37 36 [.ref a, l1] st h Q ↔ mm_wp d 37 37 [.ref a, l1] (.ref a :: st) h Q := wp_aloadR_n rfl rfl
theorem s37_37 : mm_wp d 37 37 ls (.ref a :: st) h Q ↔ (mm_s h a).1 = 5 ∧ mm_wp d 37 40 ls (.int (mm_i h a 3) :: st) h Q := wp_getI rfl rfl (by decide) (by decide)
theorem s37_40 : mm_wp d 37 40 ls (.int x :: st) h Q ↔ Q (.inl (some (.int x))) h := wp_iret rfl rfl
theorem s37_41 : mm_wp d 37 41 [.ref a, l1] st h Q ↔ mm_wp d 37 42 [.ref a, l1] (.ref a :: st) h Q := wp_aloadR_n rfl rfl
theorem s37_42 : mm_wp d 37 42 ls (.ref a :: st) h Q ↔ (mm_s h a).1 = 5 ∧ mm_wp d 37 45 ls (.int (mm_i h a 4) :: st) h Q := wp_getI rfl rfl (by decide) (by decide)
theorem s37_45 : mm_wp d 37 45 ls (.int x :: st) h Q ↔ Q (.inl (some (.int x))) h := wp_iret rfl rfl
theorem s37_46 : mm_wp d 37 46 [.ref a, l1] st h Q ↔ mm_wp d 37 47 [.ref a, l1] (.ref a :: st) h Q := wp_aloadR_n rfl rfl
theorem s37_47 : mm_wp d 37 47 ls (.ref a :: st) h Q ↔ (mm_s h a).1 = 5 ∧ mm_wp d 37 50 ls (.int (mm_i h a 5) :: st) h Q := wp_getI rfl rfl (by decide) (by decide)
theorem s37_50 : mm_wp d 37 50 ls (.int x :: st) h Q ↔ Q (.inl (some (.int x))) h := wp_iret rfl rfl
/-! 38: LoadRoom$Piece.goesIn(I)Z -/
theorem s38_0 : mm_wp d 38 0 [.ref a, l1] st h Q ↔ mm_wp d 38 1 [.ref a, l1] (.ref a :: st) h Q := wp_aloadR_n rfl rfl
theorem s38_1 : mm_wp d 38 1 [l0, .int x] st h Q ↔ mm_wp d 38 2 [l0, .int x] (.int x :: st) h Q := wp_iload_n rfl rfl
theorem s38_2 : mm_wp (d + 1) 38 2 ls [.int x2, .ref a] h Q ↔ (mm_s h a).1 = 5 ∧ mm_wp d 35 0 [.ref a, .int x2] [] h (mm_bk (d + 1) 38 2 ls [] Q) := wp_virtual rfl rfl ⟨by decide, rfl⟩ ⟨Nat.le_of_ble_eq_true rfl, Nat.le_of_ble_eq_true rfl⟩ rfl rfl rfl rfl rfl rfl
theorem s38_5 : mm_wp d 38 5 [.ref a, l1] st h Q ↔ mm_wp d 38 6 [.ref a, l1] (.ref a :: st) h Q := wp_aloadR_n rfl rfl
theorem s38_6 : mm_wp d 38 6 ls (.ref a :: st) h Q ↔ (mm_s h a).1 = 5 ∧ mm_wp d 38 9 ls (mm_o (mm_r h a 0) :: st) h Q := wp_getR rfl rfl
theorem s38_9 : mm_wp d 38 9 ls (.ref a :: st) h Q ↔ (mm_s h a).1 = 1 ∧ mm_wp d 38 12 ls (.int (mm_i h a 0) :: st) h Q := wp_getI rfl rfl (by decide) (by decide)
theorem s38_12 : mm_wp d 38 12 ls (.int x2 :: .int x :: st) h Q ↔ if x2 < x then mm_wp d 38 49 ls st h Q else mm_wp d 38 15 ls st h Q := wp_icmpgt rfl rfl
theorem s38_15 : mm_wp d 38 15 [.ref a, l1] st h Q ↔ mm_wp d 38 16 [.ref a, l1] (.ref a :: st) h Q := wp_aloadR_n rfl rfl
theorem s38_16 : mm_wp d 38 16 [l0, .int x] st h Q ↔ mm_wp d 38 17 [l0, .int x] (.int x :: st) h Q := wp_iload_n rfl rfl
theorem s38_17 : mm_wp (d + 1) 38 17 ls [.int x2, .ref a] h Q ↔ (mm_s h a).1 = 5 ∧ mm_wp d 36 0 [.ref a, .int x2] [] h (mm_bk (d + 1) 38 17 ls [] Q) := wp_virtual rfl rfl ⟨by decide, rfl⟩ ⟨Nat.le_of_ble_eq_true rfl, Nat.le_of_ble_eq_true rfl⟩ rfl rfl rfl rfl rfl rfl
theorem s38_20 : mm_wp d 38 20 [.ref a, l1] st h Q ↔ mm_wp d 38 21 [.ref a, l1] (.ref a :: st) h Q := wp_aloadR_n rfl rfl
theorem s38_21 : mm_wp d 38 21 ls (.ref a :: st) h Q ↔ (mm_s h a).1 = 5 ∧ mm_wp d 38 24 ls (mm_o (mm_r h a 0) :: st) h Q := wp_getR rfl rfl
theorem s38_24 : mm_wp d 38 24 ls (.ref a :: st) h Q ↔ (mm_s h a).1 = 1 ∧ mm_wp d 38 27 ls (.int (mm_i h a 1) :: st) h Q := wp_getI rfl rfl (by decide) (by decide)
theorem s38_27 : mm_wp d 38 27 ls (.int x2 :: .int x :: st) h Q ↔ if x2 < x then mm_wp d 38 49 ls st h Q else mm_wp d 38 30 ls st h Q := wp_icmpgt rfl rfl
theorem s38_30 : mm_wp d 38 30 [.ref a, l1] st h Q ↔ mm_wp d 38 31 [.ref a, l1] (.ref a :: st) h Q := wp_aloadR_n rfl rfl
theorem s38_31 : mm_wp d 38 31 [l0, .int x] st h Q ↔ mm_wp d 38 32 [l0, .int x] (.int x :: st) h Q := wp_iload_n rfl rfl
theorem s38_32 : mm_wp (d + 1) 38 32 ls [.int x2, .ref a] h Q ↔ (mm_s h a).1 = 5 ∧ mm_wp d 37 0 [.ref a, .int x2] [] h (mm_bk (d + 1) 38 32 ls [] Q) := wp_virtual rfl rfl ⟨by decide, rfl⟩ ⟨Nat.le_of_ble_eq_true rfl, Nat.le_of_ble_eq_true rfl⟩ rfl rfl rfl rfl rfl rfl
theorem s38_35 : mm_wp d 38 35 [.ref a, l1] st h Q ↔ mm_wp d 38 36 [.ref a, l1] (.ref a :: st) h Q := wp_aloadR_n rfl rfl
theorem s38_36 : mm_wp d 38 36 ls (.ref a :: st) h Q ↔ (mm_s h a).1 = 5 ∧ mm_wp d 38 39 ls (mm_o (mm_r h a 0) :: st) h Q := wp_getR rfl rfl
theorem s38_39 : mm_wp d 38 39 ls (.ref a :: st) h Q ↔ (mm_s h a).1 = 1 ∧ mm_wp d 38 42 ls (.int (mm_i h a 2) :: st) h Q := wp_getI rfl rfl (by decide) (by decide)
theorem s38_42 : mm_wp d 38 42 ls (.int x2 :: .int x :: st) h Q ↔ if x2 < x then mm_wp d 38 49 ls st h Q else mm_wp d 38 45 ls st h Q := wp_icmpgt rfl rfl
theorem s38_45 : mm_wp d 38 45 ls st h Q ↔ mm_wp d 38 46 ls (.int (1 : Int32) :: st) h Q := wp_iconst rfl rfl
theorem s38_46 : mm_wp d 38 46 ls st h Q ↔ mm_wp d 38 50 ls st h Q := wp_goto rfl rfl
theorem s38_49 : mm_wp d 38 49 ls st h Q ↔ mm_wp d 38 50 ls (.int (0 : Int32) :: st) h Q := wp_iconst rfl rfl
theorem s38_50 : mm_wp d 38 50 ls (.int x :: st) h Q ↔ (x = 0 ∨ x = 1) ∧ Q (.inl (some (.int x))) h := wp_zret rfl rfl
/-! 39: LoadRoomLaw.turn(LLoadRoom;II[J)I -/
theorem s39_0 : mm_wp d 39 0 [l0, l1, l2, .ref a, l4] st h Q ↔ mm_wp d 39 1 [l0, l1, l2, .ref a, l4] (.ref a :: st) h Q := wp_aloadR_n rfl rfl
theorem s39_0o : mm_wp d 39 0 [l0, l1, l2, mm_o o, l4] st h Q ↔ mm_wp d 39 1 [l0, l1, l2, mm_o o, l4] (mm_o o :: st) h Q := wp_aload_n rfl o rfl
theorem s39_1 : mm_wp d 39 1 ls st h Q ↔ mm_wp d 39 2 ls (.int (0 : Int32) :: st) h Q := wp_iconst rfl rfl
theorem s39_2 : mm_wp d 39 2 [.ref a, l1, l2, l3, l4] st h Q ↔ mm_wp d 39 3 [.ref a, l1, l2, l3, l4] (.ref a :: st) h Q := wp_aloadR_n rfl rfl
theorem s39_2o : mm_wp d 39 2 [mm_o o, l1, l2, l3, l4] st h Q ↔ mm_wp d 39 3 [mm_o o, l1, l2, l3, l4] (mm_o o :: st) h Q := wp_aload_n rfl o rfl
theorem s39_3 : mm_wp d 39 3 [l0, .int x, l2, l3, l4] st h Q ↔ mm_wp d 39 4 [l0, .int x, l2, l3, l4] (.int x :: st) h Q := wp_iload_n rfl rfl
theorem s39_4 : mm_wp d 39 4 [l0, l1, .int x, l3, l4] st h Q ↔ mm_wp d 39 5 [l0, l1, .int x, l3, l4] (.int x :: st) h Q := wp_iload_n rfl rfl
theorem s39_5 : mm_wp (d + 1) 39 5 ls [.int x3, .int x2, .ref a, t1, t0] h Q ↔ (mm_s h a).1 = 9 ∧ mm_wp d 40 0 [.ref a, .int x2, .int x3, mm_j, mm_j] [] h (mm_bk (d + 1) 39 5 ls [t1, t0] Q) := wp_virtual rfl rfl ⟨by decide, rfl⟩ ⟨Nat.le_of_ble_eq_true rfl, Nat.le_of_ble_eq_true rfl⟩ rfl rfl rfl rfl rfl rfl
theorem s39_8 : mm_wp d 39 8 ls (.int x :: st) h Q ↔ mm_wp d 39 9 ls (.long x.toInt64 :: st) h Q := wp_i2l rfl
theorem s39_9 : mm_wp d 39 9 ls (.long w :: .int x :: .ref a :: st) h Q ↔ ((mm_s h a).1 = 21 ∧ mm_in x (mm_s h a).2 = true) ∧ mm_wp d 39 10 ls st (mm_pl h a x.toNatClampNeg w) Q := wp_lastore rfl
theorem s39_10 : mm_wp d 39 10 ls st h Q ↔ mm_wp d 39 21 ls st h Q := wp_goto rfl rfl
theorem s39_13 : mm_wp d 39 13 [l0, l1, l2, l3, l4] (.ref a :: st) h Q ↔ mm_wp d 39 15 [l0, l1, l2, l3, .ref a] st h Q := wp_astoreR rfl rfl
theorem s39_13o : mm_wp d 39 13 [l0, l1, l2, l3, l4] (mm_o o :: st) h Q ↔ mm_wp d 39 15 [l0, l1, l2, l3, mm_o o] st h Q := wp_astore rfl o rfl
theorem s39_15 : mm_wp d 39 15 ls st h Q ↔ mm_wp d 39 16 ls (.int (1 : Int32) :: st) h Q := wp_iconst rfl rfl
theorem s39_16 : mm_wp d 39 16 ls (.int x :: st) h Q ↔ Q (.inl (some (.int x))) h := wp_iret rfl rfl
theorem s39_17 : mm_wp d 39 17 [l0, l1, l2, l3, l4] (.ref a :: st) h Q ↔ mm_wp d 39 19 [l0, l1, l2, l3, .ref a] st h Q := wp_astoreR rfl rfl
theorem s39_17o : mm_wp d 39 17 [l0, l1, l2, l3, l4] (mm_o o :: st) h Q ↔ mm_wp d 39 19 [l0, l1, l2, l3, mm_o o] st h Q := wp_astore rfl o rfl
theorem s39_19 : mm_wp d 39 19 ls st h Q ↔ mm_wp d 39 20 ls (.int (2 : Int32) :: st) h Q := wp_iconst rfl rfl
theorem s39_20 : mm_wp d 39 20 ls (.int x :: st) h Q ↔ Q (.inl (some (.int x))) h := wp_iret rfl rfl
theorem s39_21 : mm_wp d 39 21 ls st h Q ↔ mm_wp d 39 22 ls (.int (0 : Int32) :: st) h Q := wp_iconst rfl rfl
theorem s39_22 : mm_wp d 39 22 ls (.int x :: st) h Q ↔ Q (.inl (some (.int x))) h := wp_iret rfl rfl
/-! 40: LoadRoom.turn(II)I -/
theorem s40_0 : mm_wp d 40 0 [.ref a, l1, l2, l3, l4] st h Q ↔ mm_wp d 40 1 [.ref a, l1, l2, l3, l4] (.ref a :: st) h Q := wp_aloadR_n rfl rfl
theorem s40_1 : mm_wp d 40 1 ls (.ref a :: st) h Q ↔ (mm_s h a).1 = 9 ∧ mm_wp d 40 4 ls (mm_o (mm_r h a 1) :: st) h Q := wp_getR rfl rfl
theorem s40_4 : mm_wp d 40 4 [l0, .int x, l2, l3, l4] st h Q ↔ mm_wp d 40 5 [l0, .int x, l2, l3, l4] (.int x :: st) h Q := wp_iload_n rfl rfl
theorem s40_5 : mm_wp (d + 1) 40 5 ls [.int x2, .ref a] h Q ↔ (mm_s h a).1 = 2 ∧ mm_wp d 41 0 [.ref a, .int x2] [] h (mm_bk (d + 1) 40 5 ls [] Q) := wp_virtual rfl rfl ⟨by decide, rfl⟩ ⟨Nat.le_of_ble_eq_true rfl, Nat.le_of_ble_eq_true rfl⟩ rfl rfl rfl rfl rfl rfl
theorem s40_8 : mm_wp d 40 8 [l0, l1, l2, l3, l4] (.ref a :: st) h Q ↔ mm_wp d 40 9 [l0, l1, l2, .ref a, l4] st h Q := wp_astoreR_n rfl rfl
theorem s40_8o : mm_wp d 40 8 [l0, l1, l2, l3, l4] (mm_o o :: st) h Q ↔ mm_wp d 40 9 [l0, l1, l2, mm_o o, l4] st h Q := wp_astore_n rfl o rfl
theorem s40_9 : mm_wp d 40 9 [l0, l1, .int x, l3, l4] st h Q ↔ mm_wp d 40 10 [l0, l1, .int x, l3, l4] (.int x :: st) h Q := wp_iload_n rfl rfl
theorem s40_10 : mm_wp d 40 10 ls st h Q ↔ mm_wp d 40 11 ls (.int (0 : Int32) :: st) h Q := wp_iconst rfl rfl
theorem s40_11 : mm_wp d 40 11 ls st h Q ↔ mm_wp d 40 12 ls (.int (3 : Int32) :: st) h Q := wp_iconst rfl rfl
theorem s40_12 : mm_wp (d + 1) 40 12 ls [.int x3, .int x2, .int x] h Q ↔ mm_wp d 25 0 [.int x, .int x2, .int x3] [] h (mm_bk (d + 1) 40 12 ls [] Q) := wp_static rfl rfl ⟨by decide, rfl⟩ ⟨Nat.le_of_ble_eq_true rfl, Nat.le_of_ble_eq_true rfl⟩ rfl rfl rfl rfl
theorem s40_15 : mm_wp d 40 15 ls (.int x :: st) h Q ↔ if x = 0 then mm_wp d 40 18 ls st h Q else mm_wp d 40 28 ls st h Q := wp_ifne rfl rfl
theorem s40_18 : mm_wp d 40 18 ls st h Q ↔ mm_wp d 40 21 ls (.ref (mm_n h) :: st) (mm_nw h 30 6 6) Q := wp_new rfl rfl rfl
theorem s40_21 : mm_wp d 40 21 ls (.ref a :: st) h Q ↔ mm_wp d 40 22 ls (.ref a :: .ref a :: st) h Q := wp_dupR rfl
theorem s40_22 : mm_wp d 40 22 ls st h Q ↔ mm_wp d 40 24 ls (.float (UInt32.ofNat 4) :: st) h Q := wp_ldcS rfl rfl rfl
theorem s40_24 : mm_wp d 40 24 ls (.float q :: .ref a :: [t0]) h Q ↔ (mm_s h a).1 = 30 ∧ mm_wp d 40 27 ls [t0] h Q := wp_excInit (z := 1001) rfl rfl (Nat.le_of_ble_eq_true rfl) rfl (Nat.le_of_ble_eq_true rfl)
theorem s40_27 : mm_wp d 40 27 ls (.ref a :: st) h Q ↔ 30 ≤ (mm_s h a).1 ∧ Q (.inr a) h := wp_athrow rfl rfl
theorem s40_28 : mm_wp d 40 28 [l0, l1, l2, .ref a, l4] st h Q ↔ mm_wp d 40 29 [l0, l1, l2, .ref a, l4] (.ref a :: st) h Q := wp_aloadR_n rfl rfl
theorem s40_28o : mm_wp d 40 28 [l0, l1, l2, mm_o o, l4] st h Q ↔ mm_wp d 40 29 [l0, l1, l2, mm_o o, l4] (mm_o o :: st) h Q := wp_aload_n rfl o rfl
theorem s40_29 : mm_wp d 40 29 ls (.ref a :: st) h Q ↔ (mm_s h a).1 = 5 ∧ mm_wp d 40 32 ls (.int (mm_i h a 7) :: st) h Q := wp_getI rfl rfl (by decide) (by decide)
theorem s40_32 : mm_wp d 40 32 [l0, l1, l2, l3, l4] (.int x :: st) h Q ↔ mm_wp d 40 34 [l0, l1, l2, l3, .int x] st h Q := wp_istore rfl rfl
theorem s40_34 : mm_wp d 40 34 [l0, l1, l2, .ref a, l4] st h Q ↔ mm_wp d 40 35 [l0, l1, l2, .ref a, l4] (.ref a :: st) h Q := wp_aloadR_n rfl rfl
theorem s40_34o : mm_wp d 40 34 [l0, l1, l2, mm_o o, l4] st h Q ↔ mm_wp d 40 35 [l0, l1, l2, mm_o o, l4] (mm_o o :: st) h Q := wp_aload_n rfl o rfl
theorem s40_35 : mm_wp d 40 35 [l0, l1, .int x, l3, l4] st h Q ↔ mm_wp d 40 36 [l0, l1, .int x, l3, l4] (.int x :: st) h Q := wp_iload_n rfl rfl
theorem s40_36 : mm_wp (d + 1) 40 36 ls [.int x2, .ref a] h Q ↔ (mm_s h a).1 = 5 ∧ mm_wp d 31 0 [.ref a, .int x2, mm_j] [] h (mm_bk (d + 1) 40 36 ls [] Q) := wp_virtual rfl rfl ⟨by decide, rfl⟩ ⟨Nat.le_of_ble_eq_true rfl, Nat.le_of_ble_eq_true rfl⟩ rfl rfl rfl rfl rfl rfl
theorem s40_39 : mm_wp d 40 39 [.ref a, l1, l2, l3, l4] st h Q ↔ mm_wp d 40 40 [.ref a, l1, l2, l3, l4] (.ref a :: st) h Q := wp_aloadR_n rfl rfl
theorem s40_40 : mm_wp d 40 40 ls (.ref a :: st) h Q ↔ (mm_s h a).1 = 9 ∧ mm_wp d 40 43 ls (mm_o (mm_r h a 2) :: st) h Q := wp_getR rfl rfl
theorem s40_43 : mm_wp (d + 1) 40 43 ls [.ref a] h Q ↔ (mm_s h a).1 = 8 ∧ mm_wp d 27 0 [.ref a] [] h (mm_bk (d + 1) 40 43 ls [] Q) := wp_virtual rfl rfl ⟨by decide, rfl⟩ ⟨Nat.le_of_ble_eq_true rfl, Nat.le_of_ble_eq_true rfl⟩ rfl rfl rfl rfl rfl rfl
theorem s40_46 : mm_wp d 40 46 [l0, l1, l2, l3, .int x] st h Q ↔ mm_wp d 40 48 [l0, l1, l2, l3, .int x] (.int x :: st) h Q := wp_iload rfl rfl
theorem s40_48 : mm_wp d 40 48 ls (.int x :: st) h Q ↔ Q (.inl (some (.int x))) h := wp_iret rfl rfl
/-! 41: LoadRoom$Cargo.get(I)LLoadRoom$Piece; -/
theorem s41_0 : mm_wp d 41 0 [.ref a, l1] st h Q ↔ mm_wp d 41 1 [.ref a, l1] (.ref a :: st) h Q := wp_aloadR_n rfl rfl
theorem s41_1 : mm_wp d 41 1 [l0, .int x] st h Q ↔ mm_wp d 41 2 [l0, .int x] (.int x :: st) h Q := wp_iload_n rfl rfl
theorem s41_2 : mm_wp (d + 1) 41 2 ls [.int x2, .ref a] h Q ↔ (mm_s h a).1 = 2 ∧ mm_wp d 42 0 [.ref a, .int x2] [] h (mm_bk (d + 1) 41 2 ls [] Q) := wp_virtual rfl rfl ⟨by decide, rfl⟩ ⟨Nat.le_of_ble_eq_true rfl, Nat.le_of_ble_eq_true rfl⟩ rfl rfl rfl rfl rfl rfl
theorem s41_5 : mm_wp d 41 5 [.ref a, l1] st h Q ↔ mm_wp d 41 6 [.ref a, l1] (.ref a :: st) h Q := wp_aloadR_n rfl rfl
theorem s41_6 : mm_wp d 41 6 ls (.ref a :: st) h Q ↔ (mm_s h a).1 = 2 ∧ mm_wp d 41 9 ls (mm_o (mm_r h a 0) :: st) h Q := wp_getR rfl rfl
theorem s41_9 : mm_wp d 41 9 [l0, .int x] st h Q ↔ mm_wp d 41 10 [l0, .int x] (.int x :: st) h Q := wp_iload_n rfl rfl
theorem s41_10 : mm_wp d 41 10 ls (.int x :: .ref a :: st) h Q ↔ (23 ≤ (mm_s h a).1 ∧ (mm_s h a).1 ≤ 26 ∧ mm_in x (mm_s h a).2 = true) ∧ mm_wp d 41 11 ls (mm_o (mm_r h a x.toNatClampNeg) :: st) h Q := wp_aaload rfl
theorem s41_11 : mm_wp d 41 11 ls (.ref a :: st) h Q ↔ Q (.inl (some (.ref a))) h := wp_aret rfl rfl (some a)
theorem s41_11o : mm_wp d 41 11 ls (mm_o o :: st) h Q ↔ Q (.inl (some (mm_o o))) h := wp_aret rfl rfl o
/-! 42: LoadRoom$Cargo.demand(I)V -/
theorem s42_0 : mm_wp d 42 0 [l0, .int x] st h Q ↔ mm_wp d 42 1 [l0, .int x] (.int x :: st) h Q := wp_iload_n rfl rfl
theorem s42_1 : mm_wp d 42 1 ls (.int x :: st) h Q ↔ if x < 0 then mm_wp d 42 12 ls st h Q else mm_wp d 42 4 ls st h Q := wp_iflt rfl rfl
theorem s42_4 : mm_wp d 42 4 [l0, .int x] st h Q ↔ mm_wp d 42 5 [l0, .int x] (.int x :: st) h Q := wp_iload_n rfl rfl
theorem s42_5 : mm_wp d 42 5 [.ref a, l1] st h Q ↔ mm_wp d 42 6 [.ref a, l1] (.ref a :: st) h Q := wp_aloadR_n rfl rfl
theorem s42_6 : mm_wp d 42 6 ls (.ref a :: st) h Q ↔ (mm_s h a).1 = 2 ∧ mm_wp d 42 9 ls (.int (mm_i h a 1) :: st) h Q := wp_getI rfl rfl (by decide) (by decide)
theorem s42_9 : mm_wp d 42 9 ls (.int x2 :: .int x :: st) h Q ↔ if x < x2 then mm_wp d 42 22 ls st h Q else mm_wp d 42 12 ls st h Q := wp_icmplt rfl rfl
theorem s42_12 : mm_wp d 42 12 ls st h Q ↔ mm_wp d 42 15 ls (.ref (mm_n h) :: st) (mm_nw h 32 6 6) Q := wp_new rfl rfl rfl
theorem s42_15 : mm_wp d 42 15 ls (.ref a :: st) h Q ↔ mm_wp d 42 16 ls (.ref a :: .ref a :: st) h Q := wp_dupR rfl
theorem s42_16 : mm_wp d 42 16 ls st h Q ↔ mm_wp d 42 18 ls (.float (UInt32.ofNat 0) :: st) h Q := wp_ldcS rfl rfl rfl
theorem s42_18 : mm_wp d 42 18 ls (.float q :: .ref a :: [t0]) h Q ↔ (mm_s h a).1 = 32 ∧ mm_wp d 42 21 ls [t0] h Q := wp_excInit (z := 1003) rfl rfl (Nat.le_of_ble_eq_true rfl) rfl (Nat.le_of_ble_eq_true rfl)
theorem s42_21 : mm_wp d 42 21 ls (.ref a :: st) h Q ↔ 30 ≤ (mm_s h a).1 ∧ Q (.inr a) h := wp_athrow rfl rfl
theorem s42_22 : mm_wp d 42 22 ls st h Q ↔ Q (.inl none) h := wp_vret rfl rfl
/-! 43: LoadRoomLaw.order(LLoadRoom;II[J)I -/
theorem s43_0 : mm_wp d 43 0 [l0, l1, l2, .ref a, l4] st h Q ↔ mm_wp d 43 1 [l0, l1, l2, .ref a, l4] (.ref a :: st) h Q := wp_aloadR_n rfl rfl
theorem s43_0o : mm_wp d 43 0 [l0, l1, l2, mm_o o, l4] st h Q ↔ mm_wp d 43 1 [l0, l1, l2, mm_o o, l4] (mm_o o :: st) h Q := wp_aload_n rfl o rfl
theorem s43_1 : mm_wp d 43 1 ls st h Q ↔ mm_wp d 43 2 ls (.int (0 : Int32) :: st) h Q := wp_iconst rfl rfl
theorem s43_2 : mm_wp d 43 2 [.ref a, l1, l2, l3, l4] st h Q ↔ mm_wp d 43 3 [.ref a, l1, l2, l3, l4] (.ref a :: st) h Q := wp_aloadR_n rfl rfl
theorem s43_2o : mm_wp d 43 2 [mm_o o, l1, l2, l3, l4] st h Q ↔ mm_wp d 43 3 [mm_o o, l1, l2, l3, l4] (mm_o o :: st) h Q := wp_aload_n rfl o rfl
theorem s43_3 : mm_wp d 43 3 [l0, .int x, l2, l3, l4] st h Q ↔ mm_wp d 43 4 [l0, .int x, l2, l3, l4] (.int x :: st) h Q := wp_iload_n rfl rfl
theorem s43_4 : mm_wp d 43 4 [l0, l1, .int x, l3, l4] st h Q ↔ mm_wp d 43 5 [l0, l1, .int x, l3, l4] (.int x :: st) h Q := wp_iload_n rfl rfl
theorem s43_5 : mm_wp (d + 1) 43 5 ls [.int x3, .int x2, .ref a, t1, t0] h Q ↔ (mm_s h a).1 = 9 ∧ mm_wp d 44 0 [.ref a, .int x2, .int x3, mm_j, mm_j] [] h (mm_bk (d + 1) 43 5 ls [t1, t0] Q) := wp_virtual rfl rfl ⟨by decide, rfl⟩ ⟨Nat.le_of_ble_eq_true rfl, Nat.le_of_ble_eq_true rfl⟩ rfl rfl rfl rfl rfl rfl
theorem s43_8 : mm_wp d 43 8 ls (.int x :: st) h Q ↔ mm_wp d 43 9 ls (.long x.toInt64 :: st) h Q := wp_i2l rfl
theorem s43_9 : mm_wp d 43 9 ls (.long w :: .int x :: .ref a :: st) h Q ↔ ((mm_s h a).1 = 21 ∧ mm_in x (mm_s h a).2 = true) ∧ mm_wp d 43 10 ls st (mm_pl h a x.toNatClampNeg w) Q := wp_lastore rfl
theorem s43_10 : mm_wp d 43 10 ls st h Q ↔ mm_wp d 43 21 ls st h Q := wp_goto rfl rfl
theorem s43_13 : mm_wp d 43 13 [l0, l1, l2, l3, l4] (.ref a :: st) h Q ↔ mm_wp d 43 15 [l0, l1, l2, l3, .ref a] st h Q := wp_astoreR rfl rfl
theorem s43_13o : mm_wp d 43 13 [l0, l1, l2, l3, l4] (mm_o o :: st) h Q ↔ mm_wp d 43 15 [l0, l1, l2, l3, mm_o o] st h Q := wp_astore rfl o rfl
theorem s43_15 : mm_wp d 43 15 ls st h Q ↔ mm_wp d 43 16 ls (.int (1 : Int32) :: st) h Q := wp_iconst rfl rfl
theorem s43_16 : mm_wp d 43 16 ls (.int x :: st) h Q ↔ Q (.inl (some (.int x))) h := wp_iret rfl rfl
theorem s43_17 : mm_wp d 43 17 [l0, l1, l2, l3, l4] (.ref a :: st) h Q ↔ mm_wp d 43 19 [l0, l1, l2, l3, .ref a] st h Q := wp_astoreR rfl rfl
theorem s43_17o : mm_wp d 43 17 [l0, l1, l2, l3, l4] (mm_o o :: st) h Q ↔ mm_wp d 43 19 [l0, l1, l2, l3, mm_o o] st h Q := wp_astore rfl o rfl
theorem s43_19 : mm_wp d 43 19 ls st h Q ↔ mm_wp d 43 20 ls (.int (2 : Int32) :: st) h Q := wp_iconst rfl rfl
theorem s43_20 : mm_wp d 43 20 ls (.int x :: st) h Q ↔ Q (.inl (some (.int x))) h := wp_iret rfl rfl
theorem s43_21 : mm_wp d 43 21 ls st h Q ↔ mm_wp d 43 22 ls (.int (0 : Int32) :: st) h Q := wp_iconst rfl rfl
theorem s43_22 : mm_wp d 43 22 ls (.int x :: st) h Q ↔ Q (.inl (some (.int x))) h := wp_iret rfl rfl
/-! 44: LoadRoom.order(II)I -/
theorem s44_0 : mm_wp d 44 0 [.ref a, l1, l2, l3, l4] st h Q ↔ mm_wp d 44 1 [.ref a, l1, l2, l3, l4] (.ref a :: st) h Q := wp_aloadR_n rfl rfl
theorem s44_1 : mm_wp d 44 1 ls (.ref a :: st) h Q ↔ (mm_s h a).1 = 9 ∧ mm_wp d 44 4 ls (mm_o (mm_r h a 1) :: st) h Q := wp_getR rfl rfl
theorem s44_4 : mm_wp d 44 4 [l0, .int x, l2, l3, l4] st h Q ↔ mm_wp d 44 5 [l0, .int x, l2, l3, l4] (.int x :: st) h Q := wp_iload_n rfl rfl
theorem s44_5 : mm_wp (d + 1) 44 5 ls [.int x2, .ref a] h Q ↔ (mm_s h a).1 = 2 ∧ mm_wp d 41 0 [.ref a, .int x2] [] h (mm_bk (d + 1) 44 5 ls [] Q) := wp_virtual rfl rfl ⟨by decide, rfl⟩ ⟨Nat.le_of_ble_eq_true rfl, Nat.le_of_ble_eq_true rfl⟩ rfl rfl rfl rfl rfl rfl
theorem s44_8 : mm_wp d 44 8 [l0, l1, l2, l3, l4] (.ref a :: st) h Q ↔ mm_wp d 44 9 [l0, l1, l2, .ref a, l4] st h Q := wp_astoreR_n rfl rfl
theorem s44_8o : mm_wp d 44 8 [l0, l1, l2, l3, l4] (mm_o o :: st) h Q ↔ mm_wp d 44 9 [l0, l1, l2, mm_o o, l4] st h Q := wp_astore_n rfl o rfl
theorem s44_9 : mm_wp d 44 9 [l0, l1, .int x, l3, l4] st h Q ↔ mm_wp d 44 10 [l0, l1, .int x, l3, l4] (.int x :: st) h Q := wp_iload_n rfl rfl
theorem s44_10 : mm_wp d 44 10 ls st h Q ↔ mm_wp d 44 11 ls (.int (0 : Int32) :: st) h Q := wp_iconst rfl rfl
theorem s44_11 : mm_wp d 44 11 ls st h Q ↔ mm_wp d 44 13 ls (.int (9 : Int32) :: st) h Q := wp_bipush rfl rfl
theorem s44_13 : mm_wp (d + 1) 44 13 ls [.int x3, .int x2, .int x] h Q ↔ mm_wp d 25 0 [.int x, .int x2, .int x3] [] h (mm_bk (d + 1) 44 13 ls [] Q) := wp_static rfl rfl ⟨by decide, rfl⟩ ⟨Nat.le_of_ble_eq_true rfl, Nat.le_of_ble_eq_true rfl⟩ rfl rfl rfl rfl
theorem s44_16 : mm_wp d 44 16 ls (.int x :: st) h Q ↔ if x = 0 then mm_wp d 44 19 ls st h Q else mm_wp d 44 29 ls st h Q := wp_ifne rfl rfl
theorem s44_19 : mm_wp d 44 19 ls st h Q ↔ mm_wp d 44 22 ls (.ref (mm_n h) :: st) (mm_nw h 30 6 6) Q := wp_new rfl rfl rfl
theorem s44_22 : mm_wp d 44 22 ls (.ref a :: st) h Q ↔ mm_wp d 44 23 ls (.ref a :: .ref a :: st) h Q := wp_dupR rfl
theorem s44_23 : mm_wp d 44 23 ls st h Q ↔ mm_wp d 44 25 ls (.float (UInt32.ofNat 5) :: st) h Q := wp_ldcS rfl rfl rfl
theorem s44_25 : mm_wp d 44 25 ls (.float q :: .ref a :: [t0]) h Q ↔ (mm_s h a).1 = 30 ∧ mm_wp d 44 28 ls [t0] h Q := wp_excInit (z := 1001) rfl rfl (Nat.le_of_ble_eq_true rfl) rfl (Nat.le_of_ble_eq_true rfl)
theorem s44_28 : mm_wp d 44 28 ls (.ref a :: st) h Q ↔ 30 ≤ (mm_s h a).1 ∧ Q (.inr a) h := wp_athrow rfl rfl
theorem s44_29 : mm_wp d 44 29 [l0, l1, l2, .ref a, l4] st h Q ↔ mm_wp d 44 30 [l0, l1, l2, .ref a, l4] (.ref a :: st) h Q := wp_aloadR_n rfl rfl
theorem s44_29o : mm_wp d 44 29 [l0, l1, l2, mm_o o, l4] st h Q ↔ mm_wp d 44 30 [l0, l1, l2, mm_o o, l4] (mm_o o :: st) h Q := wp_aload_n rfl o rfl
theorem s44_30 : mm_wp d 44 30 ls (.ref a :: st) h Q ↔ (mm_s h a).1 = 5 ∧ mm_wp d 44 33 ls (.int (mm_i h a 8) :: st) h Q := wp_getI rfl rfl (by decide) (by decide)
theorem s44_33 : mm_wp d 44 33 [l0, l1, l2, l3, l4] (.int x :: st) h Q ↔ mm_wp d 44 35 [l0, l1, l2, l3, .int x] st h Q := wp_istore rfl rfl
theorem s44_35 : mm_wp d 44 35 [l0, l1, l2, .ref a, l4] st h Q ↔ mm_wp d 44 36 [l0, l1, l2, .ref a, l4] (.ref a :: st) h Q := wp_aloadR_n rfl rfl
theorem s44_35o : mm_wp d 44 35 [l0, l1, l2, mm_o o, l4] st h Q ↔ mm_wp d 44 36 [l0, l1, l2, mm_o o, l4] (mm_o o :: st) h Q := wp_aload_n rfl o rfl
theorem s44_36 : mm_wp d 44 36 [l0, l1, .int x, l3, l4] st h Q ↔ mm_wp d 44 37 [l0, l1, .int x, l3, l4] (.int x :: st) h Q := wp_iload_n rfl rfl
theorem s44_37 : mm_wp d 44 37 ls (.int x :: .ref a :: st) h Q ↔ (mm_s h a).1 = 5 ∧ mm_wp d 44 40 ls st (mm_pi h a 8 x) Q := wp_putI rfl rfl
theorem s44_40 : mm_wp d 44 40 [.ref a, l1, l2, l3, l4] st h Q ↔ mm_wp d 44 41 [.ref a, l1, l2, l3, l4] (.ref a :: st) h Q := wp_aloadR_n rfl rfl
theorem s44_41 : mm_wp d 44 41 ls (.ref a :: st) h Q ↔ (mm_s h a).1 = 9 ∧ mm_wp d 44 44 ls (mm_o (mm_r h a 2) :: st) h Q := wp_getR rfl rfl
theorem s44_44 : mm_wp (d + 1) 44 44 ls [.ref a] h Q ↔ (mm_s h a).1 = 8 ∧ mm_wp d 27 0 [.ref a] [] h (mm_bk (d + 1) 44 44 ls [] Q) := wp_virtual rfl rfl ⟨by decide, rfl⟩ ⟨Nat.le_of_ble_eq_true rfl, Nat.le_of_ble_eq_true rfl⟩ rfl rfl rfl rfl rfl rfl
theorem s44_47 : mm_wp d 44 47 [l0, l1, l2, l3, .int x] st h Q ↔ mm_wp d 44 49 [l0, l1, l2, l3, .int x] (.int x :: st) h Q := wp_iload rfl rfl
theorem s44_49 : mm_wp d 44 49 ls (.int x :: st) h Q ↔ Q (.inl (some (.int x))) h := wp_iret rfl rfl
/-! 45: LoadRoomLaw.limit(LLoadRoom;II[J)I -/
theorem s45_0 : mm_wp d 45 0 [l0, l1, l2, .ref a, l4] st h Q ↔ mm_wp d 45 1 [l0, l1, l2, .ref a, l4] (.ref a :: st) h Q := wp_aloadR_n rfl rfl
theorem s45_0o : mm_wp d 45 0 [l0, l1, l2, mm_o o, l4] st h Q ↔ mm_wp d 45 1 [l0, l1, l2, mm_o o, l4] (mm_o o :: st) h Q := wp_aload_n rfl o rfl
theorem s45_1 : mm_wp d 45 1 ls st h Q ↔ mm_wp d 45 2 ls (.int (0 : Int32) :: st) h Q := wp_iconst rfl rfl
theorem s45_2 : mm_wp d 45 2 [.ref a, l1, l2, l3, l4] st h Q ↔ mm_wp d 45 3 [.ref a, l1, l2, l3, l4] (.ref a :: st) h Q := wp_aloadR_n rfl rfl
theorem s45_2o : mm_wp d 45 2 [mm_o o, l1, l2, l3, l4] st h Q ↔ mm_wp d 45 3 [mm_o o, l1, l2, l3, l4] (mm_o o :: st) h Q := wp_aload_n rfl o rfl
theorem s45_3 : mm_wp d 45 3 [l0, .int x, l2, l3, l4] st h Q ↔ mm_wp d 45 4 [l0, .int x, l2, l3, l4] (.int x :: st) h Q := wp_iload_n rfl rfl
theorem s45_4 : mm_wp d 45 4 [l0, l1, .int x, l3, l4] st h Q ↔ mm_wp d 45 5 [l0, l1, .int x, l3, l4] (.int x :: st) h Q := wp_iload_n rfl rfl
theorem s45_5 : mm_wp (d + 1) 45 5 ls [.int x3, .int x2, .ref a, t1, t0] h Q ↔ (mm_s h a).1 = 9 ∧ mm_wp d 46 0 [.ref a, .int x2, .int x3, mm_j, mm_j] [] h (mm_bk (d + 1) 45 5 ls [t1, t0] Q) := wp_virtual rfl rfl ⟨by decide, rfl⟩ ⟨Nat.le_of_ble_eq_true rfl, Nat.le_of_ble_eq_true rfl⟩ rfl rfl rfl rfl rfl rfl
theorem s45_8 : mm_wp d 45 8 ls (.int x :: st) h Q ↔ mm_wp d 45 9 ls (.long x.toInt64 :: st) h Q := wp_i2l rfl
theorem s45_9 : mm_wp d 45 9 ls (.long w :: .int x :: .ref a :: st) h Q ↔ ((mm_s h a).1 = 21 ∧ mm_in x (mm_s h a).2 = true) ∧ mm_wp d 45 10 ls st (mm_pl h a x.toNatClampNeg w) Q := wp_lastore rfl
theorem s45_10 : mm_wp d 45 10 ls st h Q ↔ mm_wp d 45 21 ls st h Q := wp_goto rfl rfl
theorem s45_13 : mm_wp d 45 13 [l0, l1, l2, l3, l4] (.ref a :: st) h Q ↔ mm_wp d 45 15 [l0, l1, l2, l3, .ref a] st h Q := wp_astoreR rfl rfl
theorem s45_13o : mm_wp d 45 13 [l0, l1, l2, l3, l4] (mm_o o :: st) h Q ↔ mm_wp d 45 15 [l0, l1, l2, l3, mm_o o] st h Q := wp_astore rfl o rfl
theorem s45_15 : mm_wp d 45 15 ls st h Q ↔ mm_wp d 45 16 ls (.int (1 : Int32) :: st) h Q := wp_iconst rfl rfl
theorem s45_16 : mm_wp d 45 16 ls (.int x :: st) h Q ↔ Q (.inl (some (.int x))) h := wp_iret rfl rfl
theorem s45_17 : mm_wp d 45 17 [l0, l1, l2, l3, l4] (.ref a :: st) h Q ↔ mm_wp d 45 19 [l0, l1, l2, l3, .ref a] st h Q := wp_astoreR rfl rfl
theorem s45_17o : mm_wp d 45 17 [l0, l1, l2, l3, l4] (mm_o o :: st) h Q ↔ mm_wp d 45 19 [l0, l1, l2, l3, mm_o o] st h Q := wp_astore rfl o rfl
theorem s45_19 : mm_wp d 45 19 ls st h Q ↔ mm_wp d 45 20 ls (.int (2 : Int32) :: st) h Q := wp_iconst rfl rfl
theorem s45_20 : mm_wp d 45 20 ls (.int x :: st) h Q ↔ Q (.inl (some (.int x))) h := wp_iret rfl rfl
theorem s45_21 : mm_wp d 45 21 ls st h Q ↔ mm_wp d 45 22 ls (.int (0 : Int32) :: st) h Q := wp_iconst rfl rfl
theorem s45_22 : mm_wp d 45 22 ls (.int x :: st) h Q ↔ Q (.inl (some (.int x))) h := wp_iret rfl rfl
/-! 46: LoadRoom.limit(II)I -/
theorem s46_0 : mm_wp d 46 0 [.ref a, l1, l2, l3, l4] st h Q ↔ mm_wp d 46 1 [.ref a, l1, l2, l3, l4] (.ref a :: st) h Q := wp_aloadR_n rfl rfl
theorem s46_1 : mm_wp d 46 1 ls (.ref a :: st) h Q ↔ (mm_s h a).1 = 9 ∧ mm_wp d 46 4 ls (mm_o (mm_r h a 1) :: st) h Q := wp_getR rfl rfl
theorem s46_4 : mm_wp d 46 4 [l0, .int x, l2, l3, l4] st h Q ↔ mm_wp d 46 5 [l0, .int x, l2, l3, l4] (.int x :: st) h Q := wp_iload_n rfl rfl
theorem s46_5 : mm_wp (d + 1) 46 5 ls [.int x2, .ref a] h Q ↔ (mm_s h a).1 = 2 ∧ mm_wp d 41 0 [.ref a, .int x2] [] h (mm_bk (d + 1) 46 5 ls [] Q) := wp_virtual rfl rfl ⟨by decide, rfl⟩ ⟨Nat.le_of_ble_eq_true rfl, Nat.le_of_ble_eq_true rfl⟩ rfl rfl rfl rfl rfl rfl
theorem s46_8 : mm_wp d 46 8 [l0, l1, l2, l3, l4] (.ref a :: st) h Q ↔ mm_wp d 46 9 [l0, l1, l2, .ref a, l4] st h Q := wp_astoreR_n rfl rfl
theorem s46_8o : mm_wp d 46 8 [l0, l1, l2, l3, l4] (mm_o o :: st) h Q ↔ mm_wp d 46 9 [l0, l1, l2, mm_o o, l4] st h Q := wp_astore_n rfl o rfl
theorem s46_9 : mm_wp d 46 9 [l0, l1, .int x, l3, l4] st h Q ↔ mm_wp d 46 10 [l0, l1, .int x, l3, l4] (.int x :: st) h Q := wp_iload_n rfl rfl
theorem s46_10 : mm_wp d 46 10 ls st h Q ↔ mm_wp d 46 11 ls (.int (0 : Int32) :: st) h Q := wp_iconst rfl rfl
theorem s46_11 : mm_wp d 46 11 ls st h Q ↔ mm_wp d 46 13 ls (.int (100000 : Int32) :: st) h Q := wp_ldcI rfl rfl
theorem s46_13 : mm_wp (d + 1) 46 13 ls [.int x3, .int x2, .int x] h Q ↔ mm_wp d 25 0 [.int x, .int x2, .int x3] [] h (mm_bk (d + 1) 46 13 ls [] Q) := wp_static rfl rfl ⟨by decide, rfl⟩ ⟨Nat.le_of_ble_eq_true rfl, Nat.le_of_ble_eq_true rfl⟩ rfl rfl rfl rfl
theorem s46_16 : mm_wp d 46 16 ls (.int x :: st) h Q ↔ if x = 0 then mm_wp d 46 19 ls st h Q else mm_wp d 46 29 ls st h Q := wp_ifne rfl rfl
theorem s46_19 : mm_wp d 46 19 ls st h Q ↔ mm_wp d 46 22 ls (.ref (mm_n h) :: st) (mm_nw h 30 6 6) Q := wp_new rfl rfl rfl
theorem s46_22 : mm_wp d 46 22 ls (.ref a :: st) h Q ↔ mm_wp d 46 23 ls (.ref a :: .ref a :: st) h Q := wp_dupR rfl
theorem s46_23 : mm_wp d 46 23 ls st h Q ↔ mm_wp d 46 25 ls (.float (UInt32.ofNat 6) :: st) h Q := wp_ldcS rfl rfl rfl
theorem s46_25 : mm_wp d 46 25 ls (.float q :: .ref a :: [t0]) h Q ↔ (mm_s h a).1 = 30 ∧ mm_wp d 46 28 ls [t0] h Q := wp_excInit (z := 1001) rfl rfl (Nat.le_of_ble_eq_true rfl) rfl (Nat.le_of_ble_eq_true rfl)
theorem s46_28 : mm_wp d 46 28 ls (.ref a :: st) h Q ↔ 30 ≤ (mm_s h a).1 ∧ Q (.inr a) h := wp_athrow rfl rfl
theorem s46_29 : mm_wp d 46 29 [l0, l1, l2, .ref a, l4] st h Q ↔ mm_wp d 46 30 [l0, l1, l2, .ref a, l4] (.ref a :: st) h Q := wp_aloadR_n rfl rfl
theorem s46_29o : mm_wp d 46 29 [l0, l1, l2, mm_o o, l4] st h Q ↔ mm_wp d 46 30 [l0, l1, l2, mm_o o, l4] (mm_o o :: st) h Q := wp_aload_n rfl o rfl
theorem s46_30 : mm_wp d 46 30 ls (.ref a :: st) h Q ↔ (mm_s h a).1 = 5 ∧ mm_wp d 46 33 ls (.int (mm_i h a 9) :: st) h Q := wp_getI rfl rfl (by decide) (by decide)
theorem s46_33 : mm_wp d 46 33 [l0, l1, l2, l3, l4] (.int x :: st) h Q ↔ mm_wp d 46 35 [l0, l1, l2, l3, .int x] st h Q := wp_istore rfl rfl
theorem s46_35 : mm_wp d 46 35 [l0, l1, l2, .ref a, l4] st h Q ↔ mm_wp d 46 36 [l0, l1, l2, .ref a, l4] (.ref a :: st) h Q := wp_aloadR_n rfl rfl
theorem s46_35o : mm_wp d 46 35 [l0, l1, l2, mm_o o, l4] st h Q ↔ mm_wp d 46 36 [l0, l1, l2, mm_o o, l4] (mm_o o :: st) h Q := wp_aload_n rfl o rfl
theorem s46_36 : mm_wp d 46 36 [l0, l1, .int x, l3, l4] st h Q ↔ mm_wp d 46 37 [l0, l1, .int x, l3, l4] (.int x :: st) h Q := wp_iload_n rfl rfl
theorem s46_37 : mm_wp d 46 37 ls (.int x :: .ref a :: st) h Q ↔ (mm_s h a).1 = 5 ∧ mm_wp d 46 40 ls st (mm_pi h a 9 x) Q := wp_putI rfl rfl
theorem s46_40 : mm_wp d 46 40 [.ref a, l1, l2, l3, l4] st h Q ↔ mm_wp d 46 41 [.ref a, l1, l2, l3, l4] (.ref a :: st) h Q := wp_aloadR_n rfl rfl
theorem s46_41 : mm_wp d 46 41 ls (.ref a :: st) h Q ↔ (mm_s h a).1 = 9 ∧ mm_wp d 46 44 ls (mm_o (mm_r h a 2) :: st) h Q := wp_getR rfl rfl
theorem s46_44 : mm_wp (d + 1) 46 44 ls [.ref a] h Q ↔ (mm_s h a).1 = 8 ∧ mm_wp d 27 0 [.ref a] [] h (mm_bk (d + 1) 46 44 ls [] Q) := wp_virtual rfl rfl ⟨by decide, rfl⟩ ⟨Nat.le_of_ble_eq_true rfl, Nat.le_of_ble_eq_true rfl⟩ rfl rfl rfl rfl rfl rfl
theorem s46_47 : mm_wp d 46 47 [l0, l1, l2, l3, .int x] st h Q ↔ mm_wp d 46 49 [l0, l1, l2, l3, .int x] (.int x :: st) h Q := wp_iload rfl rfl
theorem s46_49 : mm_wp d 46 49 ls (.int x :: st) h Q ↔ Q (.inl (some (.int x))) h := wp_iret rfl rfl
/-! 47: LoadRoomLaw.fits(LLoadRoom;I[J)I -/
theorem s47_0 : mm_wp d 47 0 [l0, l1, .ref a, l3] st h Q ↔ mm_wp d 47 1 [l0, l1, .ref a, l3] (.ref a :: st) h Q := wp_aloadR_n rfl rfl
theorem s47_0o : mm_wp d 47 0 [l0, l1, mm_o o, l3] st h Q ↔ mm_wp d 47 1 [l0, l1, mm_o o, l3] (mm_o o :: st) h Q := wp_aload_n rfl o rfl
theorem s47_1 : mm_wp d 47 1 ls st h Q ↔ mm_wp d 47 2 ls (.int (0 : Int32) :: st) h Q := wp_iconst rfl rfl
theorem s47_2 : mm_wp d 47 2 [.ref a, l1, l2, l3] st h Q ↔ mm_wp d 47 3 [.ref a, l1, l2, l3] (.ref a :: st) h Q := wp_aloadR_n rfl rfl
theorem s47_2o : mm_wp d 47 2 [mm_o o, l1, l2, l3] st h Q ↔ mm_wp d 47 3 [mm_o o, l1, l2, l3] (mm_o o :: st) h Q := wp_aload_n rfl o rfl
theorem s47_3 : mm_wp d 47 3 [l0, .int x, l2, l3] st h Q ↔ mm_wp d 47 4 [l0, .int x, l2, l3] (.int x :: st) h Q := wp_iload_n rfl rfl
theorem s47_4 : mm_wp (d + 1) 47 4 ls [.int x2, .ref a, t1, t0] h Q ↔ (mm_s h a).1 = 9 ∧ mm_wp d 48 0 [.ref a, .int x2] [] h (mm_bk (d + 1) 47 4 ls [t1, t0] Q) := wp_virtual rfl rfl ⟨by decide, rfl⟩ ⟨Nat.le_of_ble_eq_true rfl, Nat.le_of_ble_eq_true rfl⟩ rfl rfl rfl rfl rfl rfl
theorem s47_7 : mm_wp d 47 7 ls (.int x :: st) h Q ↔ mm_wp d 47 8 ls (.long x.toInt64 :: st) h Q := wp_i2l rfl
theorem s47_8 : mm_wp d 47 8 ls (.long w :: .int x :: .ref a :: st) h Q ↔ ((mm_s h a).1 = 21 ∧ mm_in x (mm_s h a).2 = true) ∧ mm_wp d 47 9 ls st (mm_pl h a x.toNatClampNeg w) Q := wp_lastore rfl
theorem s47_9 : mm_wp d 47 9 ls st h Q ↔ mm_wp d 47 15 ls st h Q := wp_goto rfl rfl
theorem s47_12 : mm_wp d 47 12 [l0, l1, l2, l3] (.ref a :: st) h Q ↔ mm_wp d 47 13 [l0, l1, l2, .ref a] st h Q := wp_astoreR_n rfl rfl
theorem s47_12o : mm_wp d 47 12 [l0, l1, l2, l3] (mm_o o :: st) h Q ↔ mm_wp d 47 13 [l0, l1, l2, mm_o o] st h Q := wp_astore_n rfl o rfl
theorem s47_13 : mm_wp d 47 13 ls st h Q ↔ mm_wp d 47 14 ls (.int (1 : Int32) :: st) h Q := wp_iconst rfl rfl
theorem s47_14 : mm_wp d 47 14 ls (.int x :: st) h Q ↔ Q (.inl (some (.int x))) h := wp_iret rfl rfl
theorem s47_15 : mm_wp d 47 15 ls st h Q ↔ mm_wp d 47 16 ls (.int (0 : Int32) :: st) h Q := wp_iconst rfl rfl
theorem s47_16 : mm_wp d 47 16 ls (.int x :: st) h Q ↔ Q (.inl (some (.int x))) h := wp_iret rfl rfl
/-! 48: LoadRoom.fits(I)I -/
theorem s48_0 : mm_wp d 48 0 [.ref a, l1] st h Q ↔ mm_wp d 48 1 [.ref a, l1] (.ref a :: st) h Q := wp_aloadR_n rfl rfl
theorem s48_1 : mm_wp d 48 1 ls (.ref a :: st) h Q ↔ (mm_s h a).1 = 9 ∧ mm_wp d 48 4 ls (mm_o (mm_r h a 1) :: st) h Q := wp_getR rfl rfl
theorem s48_4 : mm_wp d 48 4 [l0, .int x] st h Q ↔ mm_wp d 48 5 [l0, .int x] (.int x :: st) h Q := wp_iload_n rfl rfl
theorem s48_5 : mm_wp (d + 1) 48 5 ls [.int x2, .ref a] h Q ↔ (mm_s h a).1 = 2 ∧ mm_wp d 41 0 [.ref a, .int x2] [] h (mm_bk (d + 1) 48 5 ls [] Q) := wp_virtual rfl rfl ⟨by decide, rfl⟩ ⟨Nat.le_of_ble_eq_true rfl, Nat.le_of_ble_eq_true rfl⟩ rfl rfl rfl rfl rfl rfl
theorem s48_8 : mm_wp d 48 8 ls (.ref a :: st) h Q ↔ (mm_s h a).1 = 5 ∧ mm_wp d 48 11 ls (.int (mm_i h a 2) :: st) h Q := wp_getI rfl rfl (by decide) (by decide)
theorem s48_11 : mm_wp d 48 11 ls (.int x :: st) h Q ↔ Q (.inl (some (.int x))) h := wp_iret rfl rfl
/-! 49: LoadRoomLaw.pack(LLoadRoom;I[J)I -/
theorem s49_0 : mm_wp d 49 0 [l0, l1, .ref a, l3] st h Q ↔ mm_wp d 49 1 [l0, l1, .ref a, l3] (.ref a :: st) h Q := wp_aloadR_n rfl rfl
theorem s49_0o : mm_wp d 49 0 [l0, l1, mm_o o, l3] st h Q ↔ mm_wp d 49 1 [l0, l1, mm_o o, l3] (mm_o o :: st) h Q := wp_aload_n rfl o rfl
theorem s49_1 : mm_wp d 49 1 ls st h Q ↔ mm_wp d 49 2 ls (.int (0 : Int32) :: st) h Q := wp_iconst rfl rfl
theorem s49_2 : mm_wp d 49 2 [.ref a, l1, l2, l3] st h Q ↔ mm_wp d 49 3 [.ref a, l1, l2, l3] (.ref a :: st) h Q := wp_aloadR_n rfl rfl
theorem s49_2o : mm_wp d 49 2 [mm_o o, l1, l2, l3] st h Q ↔ mm_wp d 49 3 [mm_o o, l1, l2, l3] (mm_o o :: st) h Q := wp_aload_n rfl o rfl
theorem s49_3 : mm_wp d 49 3 [l0, .int x, l2, l3] st h Q ↔ mm_wp d 49 4 [l0, .int x, l2, l3] (.int x :: st) h Q := wp_iload_n rfl rfl
theorem s49_4 : mm_wp (d + 1) 49 4 ls [.int x2, .ref a, t1, t0] h Q ↔ (mm_s h a).1 = 9 ∧ mm_wp d 50 0 [.ref a, .int x2] [] h (mm_bk (d + 1) 49 4 ls [t1, t0] Q) := wp_virtual rfl rfl ⟨by decide, rfl⟩ ⟨Nat.le_of_ble_eq_true rfl, Nat.le_of_ble_eq_true rfl⟩ rfl rfl rfl rfl rfl rfl
theorem s49_7 : mm_wp d 49 7 ls (.int x :: st) h Q ↔ mm_wp d 49 8 ls (.long x.toInt64 :: st) h Q := wp_i2l rfl
theorem s49_8 : mm_wp d 49 8 ls (.long w :: .int x :: .ref a :: st) h Q ↔ ((mm_s h a).1 = 21 ∧ mm_in x (mm_s h a).2 = true) ∧ mm_wp d 49 9 ls st (mm_pl h a x.toNatClampNeg w) Q := wp_lastore rfl
theorem s49_9 : mm_wp d 49 9 ls st h Q ↔ mm_wp d 49 15 ls st h Q := wp_goto rfl rfl
theorem s49_12 : mm_wp d 49 12 [l0, l1, l2, l3] (.ref a :: st) h Q ↔ mm_wp d 49 13 [l0, l1, l2, .ref a] st h Q := wp_astoreR_n rfl rfl
theorem s49_12o : mm_wp d 49 12 [l0, l1, l2, l3] (mm_o o :: st) h Q ↔ mm_wp d 49 13 [l0, l1, l2, mm_o o] st h Q := wp_astore_n rfl o rfl
theorem s49_13 : mm_wp d 49 13 ls st h Q ↔ mm_wp d 49 14 ls (.int (1 : Int32) :: st) h Q := wp_iconst rfl rfl
theorem s49_14 : mm_wp d 49 14 ls (.int x :: st) h Q ↔ Q (.inl (some (.int x))) h := wp_iret rfl rfl
theorem s49_15 : mm_wp d 49 15 ls st h Q ↔ mm_wp d 49 16 ls (.int (0 : Int32) :: st) h Q := wp_iconst rfl rfl
theorem s49_16 : mm_wp d 49 16 ls (.int x :: st) h Q ↔ Q (.inl (some (.int x))) h := wp_iret rfl rfl
/-! 50: LoadRoom.pack(I)I -/
theorem s50_0 : mm_wp d 50 0 [l0, .int x] st h Q ↔ mm_wp d 50 1 [l0, .int x] (.int x :: st) h Q := wp_iload_n rfl rfl
theorem s50_1 : mm_wp d 50 1 ls st h Q ↔ mm_wp d 50 2 ls (.int (1 : Int32) :: st) h Q := wp_iconst rfl rfl
theorem s50_2 : mm_wp d 50 2 ls st h Q ↔ mm_wp d 50 5 ls (.int (1000 : Int32) :: st) h Q := wp_sipush rfl rfl
theorem s50_5 : mm_wp (d + 1) 50 5 ls [.int x3, .int x2, .int x] h Q ↔ mm_wp d 25 0 [.int x, .int x2, .int x3] [] h (mm_bk (d + 1) 50 5 ls [] Q) := wp_static rfl rfl ⟨by decide, rfl⟩ ⟨Nat.le_of_ble_eq_true rfl, Nat.le_of_ble_eq_true rfl⟩ rfl rfl rfl rfl
theorem s50_8 : mm_wp d 50 8 ls (.int x :: st) h Q ↔ if x = 0 then mm_wp d 50 11 ls st h Q else mm_wp d 50 21 ls st h Q := wp_ifne rfl rfl
theorem s50_11 : mm_wp d 50 11 ls st h Q ↔ mm_wp d 50 14 ls (.ref (mm_n h) :: st) (mm_nw h 30 6 6) Q := wp_new rfl rfl rfl
theorem s50_14 : mm_wp d 50 14 ls (.ref a :: st) h Q ↔ mm_wp d 50 15 ls (.ref a :: .ref a :: st) h Q := wp_dupR rfl
theorem s50_15 : mm_wp d 50 15 ls st h Q ↔ mm_wp d 50 17 ls (.float (UInt32.ofNat 7) :: st) h Q := wp_ldcS rfl rfl rfl
theorem s50_17 : mm_wp d 50 17 ls (.float q :: .ref a :: [t0]) h Q ↔ (mm_s h a).1 = 30 ∧ mm_wp d 50 20 ls [t0] h Q := wp_excInit (z := 1001) rfl rfl (Nat.le_of_ble_eq_true rfl) rfl (Nat.le_of_ble_eq_true rfl)
theorem s50_20 : mm_wp d 50 20 ls (.ref a :: st) h Q ↔ 30 ≤ (mm_s h a).1 ∧ Q (.inr a) h := wp_athrow rfl rfl
theorem s50_21 : mm_wp d 50 21 [.ref a, l1] st h Q ↔ mm_wp d 50 22 [.ref a, l1] (.ref a :: st) h Q := wp_aloadR_n rfl rfl
theorem s50_22 : mm_wp d 50 22 ls (.ref a :: st) h Q ↔ (mm_s h a).1 = 9 ∧ mm_wp d 50 25 ls (mm_o (mm_r h a 2) :: st) h Q := wp_getR rfl rfl
theorem s50_25 : mm_wp d 50 25 [l0, .int x] st h Q ↔ mm_wp d 50 26 [l0, .int x] (.int x :: st) h Q := wp_iload_n rfl rfl
theorem s50_26 : mm_wp (d + 1) 50 26 ls [.int x2, .ref a] h Q ↔ (mm_s h a).1 = 8 ∧ mm_wp d 51 0 [.ref a, .int x2] [] h (mm_bk (d + 1) 50 26 ls [] Q) := wp_virtual rfl rfl ⟨by decide, rfl⟩ ⟨Nat.le_of_ble_eq_true rfl, Nat.le_of_ble_eq_true rfl⟩ rfl rfl rfl rfl rfl rfl
theorem s50_29 : mm_wp d 50 29 [.ref a, l1] st h Q ↔ mm_wp d 50 30 [.ref a, l1] (.ref a :: st) h Q := wp_aloadR_n rfl rfl
theorem s50_30 : mm_wp d 50 30 ls (.ref a :: st) h Q ↔ (mm_s h a).1 = 9 ∧ mm_wp d 50 33 ls (mm_o (mm_r h a 2) :: st) h Q := wp_getR rfl rfl
theorem s50_33 : mm_wp d 50 33 ls st h Q ↔ mm_wp d 50 34 ls (.int (0 : Int32) :: st) h Q := wp_iconst rfl rfl
theorem s50_34 : mm_wp (d + 1) 50 34 ls [.int x2, .ref a] h Q ↔ (mm_s h a).1 = 8 ∧ mm_wp d 52 0 [.ref a, .int x2, mm_j, mm_j, mm_j, mm_j, mm_j] [] h (mm_bk (d + 1) 50 34 ls [] Q) := wp_virtual rfl rfl ⟨by decide, rfl⟩ ⟨Nat.le_of_ble_eq_true rfl, Nat.le_of_ble_eq_true rfl⟩ rfl rfl rfl rfl rfl rfl
theorem s50_37 : mm_wp d 50 37 [.ref a, l1] st h Q ↔ mm_wp d 50 38 [.ref a, l1] (.ref a :: st) h Q := wp_aloadR_n rfl rfl
theorem s50_38 : mm_wp d 50 38 ls (.ref a :: st) h Q ↔ (mm_s h a).1 = 9 ∧ mm_wp d 50 41 ls (mm_o (mm_r h a 2) :: st) h Q := wp_getR rfl rfl
theorem s50_41 : mm_wp d 50 41 ls (.ref a :: st) h Q ↔ (mm_s h a).1 = 8 ∧ mm_wp d 50 44 ls (mm_o (mm_r h a 3) :: st) h Q := wp_getR rfl rfl
theorem s50_44 : mm_wp d 50 44 ls (.ref a :: st) h Q ↔ (mm_s h a).1 = 7 ∧ mm_wp d 50 47 ls (.int (mm_i h a 2) :: st) h Q := wp_getI rfl rfl (by decide) (by decide)
theorem s50_47 : mm_wp d 50 47 ls (.int x :: st) h Q ↔ Q (.inl (some (.int x))) h := wp_iret rfl rfl
/-! 51: LoadRoom$Search.start(I)V -/
theorem s51_0 : mm_wp d 51 0 [.ref a, l1] st h Q ↔ mm_wp d 51 1 [.ref a, l1] (.ref a :: st) h Q := wp_aloadR_n rfl rfl
theorem s51_1 : mm_wp d 51 1 [l0, .int x] st h Q ↔ mm_wp d 51 2 [l0, .int x] (.int x :: st) h Q := wp_iload_n rfl rfl
theorem s51_2 : mm_wp d 51 2 ls (.int x :: .ref a :: st) h Q ↔ (mm_s h a).1 = 8 ∧ mm_wp d 51 5 ls st (mm_pi h a 8 x) Q := wp_putI rfl rfl
theorem s51_5 : mm_wp d 51 5 [.ref a, l1] st h Q ↔ mm_wp d 51 6 [.ref a, l1] (.ref a :: st) h Q := wp_aloadR_n rfl rfl
theorem s51_6 : mm_wp d 51 6 ls st h Q ↔ mm_wp d 51 7 ls (.int (0 : Int32) :: st) h Q := wp_iconst rfl rfl
theorem s51_7 : mm_wp d 51 7 ls (.int x :: .ref a :: st) h Q ↔ (mm_s h a).1 = 8 ∧ mm_wp d 51 10 ls st (mm_pi h a 9 x) Q := wp_putI rfl rfl
theorem s51_10 : mm_wp d 51 10 [.ref a, l1] st h Q ↔ mm_wp d 51 11 [.ref a, l1] (.ref a :: st) h Q := wp_aloadR_n rfl rfl
theorem s51_11 : mm_wp d 51 11 ls st h Q ↔ mm_wp d 51 12 ls (.int (0 : Int32) :: st) h Q := wp_iconst rfl rfl
theorem s51_12 : mm_wp d 51 12 ls (.int x :: .ref a :: st) h Q ↔ (mm_s h a).1 = 8 ∧ (x = 0 ∨ x = 1) ∧ mm_wp d 51 15 ls st (mm_pi h a 10 x) Q := wp_putZ rfl rfl
theorem s51_15 : mm_wp d 51 15 [.ref a, l1] st h Q ↔ mm_wp d 51 16 [.ref a, l1] (.ref a :: st) h Q := wp_aloadR_n rfl rfl
theorem s51_16 : mm_wp d 51 16 ls (.ref a :: st) h Q ↔ (mm_s h a).1 = 8 ∧ mm_wp d 51 19 ls (mm_o (mm_r h a 2) :: st) h Q := wp_getR rfl rfl
theorem s51_19 : mm_wp (d + 1) 51 19 ls [.ref a] h Q ↔ (mm_s h a).1 = 7 ∧ mm_wp d 28 0 [.ref a] [] h (mm_bk (d + 1) 51 19 ls [] Q) := wp_virtual rfl rfl ⟨by decide, rfl⟩ ⟨Nat.le_of_ble_eq_true rfl, Nat.le_of_ble_eq_true rfl⟩ rfl rfl rfl rfl rfl rfl
theorem s51_22 : mm_wp d 51 22 [.ref a, l1] st h Q ↔ mm_wp d 51 23 [.ref a, l1] (.ref a :: st) h Q := wp_aloadR_n rfl rfl
theorem s51_23 : mm_wp d 51 23 ls (.ref a :: st) h Q ↔ (mm_s h a).1 = 8 ∧ mm_wp d 51 26 ls (mm_o (mm_r h a 3) :: st) h Q := wp_getR rfl rfl
theorem s51_26 : mm_wp (d + 1) 51 26 ls [.ref a] h Q ↔ (mm_s h a).1 = 7 ∧ mm_wp d 28 0 [.ref a] [] h (mm_bk (d + 1) 51 26 ls [] Q) := wp_virtual rfl rfl ⟨by decide, rfl⟩ ⟨Nat.le_of_ble_eq_true rfl, Nat.le_of_ble_eq_true rfl⟩ rfl rfl rfl rfl rfl rfl
theorem s51_29 : mm_wp d 51 29 ls st h Q ↔ Q (.inl none) h := wp_vret rfl rfl
/-! 52: LoadRoom$Search.goBehind(I)V -/
theorem s52_0 : mm_wp d 52 0 [l0, .int x, l2, l3, l4, l5, l6] st h Q ↔ mm_wp d 52 1 [l0, .int x, l2, l3, l4, l5, l6] (.int x :: st) h Q := wp_iload_n rfl rfl
theorem s52_1 : mm_wp d 52 1 ls (.int x :: st) h Q ↔ if x < 0 then mm_wp d 52 10 ls st h Q else mm_wp d 52 4 ls st h Q := wp_iflt rfl rfl
theorem s52_4 : mm_wp d 52 4 [l0, .int x, l2, l3, l4, l5, l6] st h Q ↔ mm_wp d 52 5 [l0, .int x, l2, l3, l4, l5, l6] (.int x :: st) h Q := wp_iload_n rfl rfl
theorem s52_5 : mm_wp d 52 5 ls st h Q ↔ mm_wp d 52 7 ls (.int (8 : Int32) :: st) h Q := wp_bipush rfl rfl
theorem s52_7 : mm_wp d 52 7 ls (.int x2 :: .int x :: st) h Q ↔ if x < x2 then mm_wp d 52 11 ls st h Q else mm_wp d 52 10 ls st h Q := wp_icmplt rfl rfl
theorem s52_10 : mm_wp d 52 10 ls st h Q ↔ Q (.inl none) h := wp_vret rfl rfl
theorem s52_11 : mm_wp d 52 11 [.ref a, l1, l2, l3, l4, l5, l6] st h Q ↔ mm_wp d 52 12 [.ref a, l1, l2, l3, l4, l5, l6] (.ref a :: st) h Q := wp_aloadR_n rfl rfl
theorem s52_12 : mm_wp d 52 12 [l0, .int x, l2, l3, l4, l5, l6] st h Q ↔ mm_wp d 52 13 [l0, .int x, l2, l3, l4, l5, l6] (.int x :: st) h Q := wp_iload_n rfl rfl
theorem s52_13 : mm_wp (d + 1) 52 13 ls [.int x2, .ref a] h Q ↔ (mm_s h a).1 = 8 ∧ mm_wp d 53 0 [.ref a, .int x2, mm_j] [] h (mm_bk (d + 1) 52 13 ls [] Q) := wp_virtual rfl rfl ⟨by decide, rfl⟩ ⟨Nat.le_of_ble_eq_true rfl, Nat.le_of_ble_eq_true rfl⟩ rfl rfl rfl rfl rfl rfl
theorem s52_16 : mm_wp d 52 16 [.ref a, l1, l2, l3, l4, l5, l6] st h Q ↔ mm_wp d 52 17 [.ref a, l1, l2, l3, l4, l5, l6] (.ref a :: st) h Q := wp_aloadR_n rfl rfl
theorem s52_17 : mm_wp d 52 17 ls (.ref a :: st) h Q ↔ (mm_s h a).1 = 8 ∧ mm_wp d 52 20 ls (mm_o (mm_r h a 2) :: st) h Q := wp_getR rfl rfl
theorem s52_20 : mm_wp d 52 20 ls (.ref a :: st) h Q ↔ (mm_s h a).1 = 7 ∧ mm_wp d 52 23 ls (mm_o (mm_r h a 0) :: st) h Q := wp_getR rfl rfl
theorem s52_23 : mm_wp d 52 23 [l0, .int x, l2, l3, l4, l5, l6] st h Q ↔ mm_wp d 52 24 [l0, .int x, l2, l3, l4, l5, l6] (.int x :: st) h Q := wp_iload_n rfl rfl
theorem s52_24 : mm_wp d 52 24 ls (.int x :: .ref a :: st) h Q ↔ (23 ≤ (mm_s h a).1 ∧ (mm_s h a).1 ≤ 26 ∧ mm_in x (mm_s h a).2 = true) ∧ mm_wp d 52 25 ls (mm_o (mm_r h a x.toNatClampNeg) :: st) h Q := wp_aaload rfl
theorem s52_25 : mm_wp d 52 25 [l0, l1, l2, l3, l4, l5, l6] (.ref a :: st) h Q ↔ mm_wp d 52 26 [l0, l1, .ref a, l3, l4, l5, l6] st h Q := wp_astoreR_n rfl rfl
theorem s52_25o : mm_wp d 52 25 [l0, l1, l2, l3, l4, l5, l6] (mm_o o :: st) h Q ↔ mm_wp d 52 26 [l0, l1, mm_o o, l3, l4, l5, l6] st h Q := wp_astore_n rfl o rfl
theorem s52_26 : mm_wp d 52 26 ls st h Q ↔ mm_wp d 52 27 ls (.int (0 : Int32) :: st) h Q := wp_iconst rfl rfl
theorem s52_27 : mm_wp d 52 27 [l0, l1, l2, l3, l4, l5, l6] (.int x :: st) h Q ↔ mm_wp d 52 28 [l0, l1, l2, .int x, l4, l5, l6] st h Q := wp_istore_n rfl rfl
theorem s52_28 : mm_wp d 52 28 [l0, l1, l2, .int x, l4, l5, l6] st h Q ↔ mm_wp d 52 29 [l0, l1, l2, .int x, l4, l5, l6] (.int x :: st) h Q := wp_iload_n rfl rfl
theorem s52_29 : mm_wp d 52 29 [.ref a, l1, l2, l3, l4, l5, l6] st h Q ↔ mm_wp d 52 30 [.ref a, l1, l2, l3, l4, l5, l6] (.ref a :: st) h Q := wp_aloadR_n rfl rfl
theorem s52_30 : mm_wp d 52 30 ls (.ref a :: st) h Q ↔ (mm_s h a).1 = 8 ∧ mm_wp d 52 33 ls (mm_o (mm_r h a 1) :: st) h Q := wp_getR rfl rfl
theorem s52_33 : mm_wp d 52 33 ls (.ref a :: st) h Q ↔ (mm_s h a).1 = 2 ∧ mm_wp d 52 36 ls (.int (mm_i h a 1) :: st) h Q := wp_getI rfl rfl (by decide) (by decide)
theorem s52_36 : mm_wp d 52 36 ls (.int x2 :: .int x :: st) h Q ↔ if x2 ≤ x then mm_wp d 52 134 ls st h Q else mm_wp d 52 39 ls st h Q := wp_icmpge rfl rfl
theorem s52_39 : mm_wp d 52 39 [.ref a, l1, l2, l3, l4, l5, l6] st h Q ↔ mm_wp d 52 40 [.ref a, l1, l2, l3, l4, l5, l6] (.ref a :: st) h Q := wp_aloadR_n rfl rfl
theorem s52_40 : mm_wp d 52 40 ls (.ref a :: st) h Q ↔ (mm_s h a).1 = 8 ∧ mm_wp d 52 43 ls (.int (mm_i h a 10) :: st) h Q := wp_getI rfl rfl (by decide) (by decide)
theorem s52_43 : mm_wp d 52 43 ls (.int x :: st) h Q ↔ if x = 0 then mm_wp d 52 46 ls st h Q else mm_wp d 52 134 ls st h Q := wp_ifne rfl rfl
theorem s52_46 : mm_wp d 52 46 [.ref a, l1, l2, l3, l4, l5, l6] st h Q ↔ mm_wp d 52 47 [.ref a, l1, l2, l3, l4, l5, l6] (.ref a :: st) h Q := wp_aloadR_n rfl rfl
theorem s52_47 : mm_wp d 52 47 ls (.ref a :: st) h Q ↔ (mm_s h a).1 = 8 ∧ mm_wp d 52 50 ls (mm_o (mm_r h a 1) :: st) h Q := wp_getR rfl rfl
theorem s52_50 : mm_wp d 52 50 ls (.ref a :: st) h Q ↔ (mm_s h a).1 = 2 ∧ mm_wp d 52 53 ls (mm_o (mm_r h a 0) :: st) h Q := wp_getR rfl rfl
theorem s52_53 : mm_wp d 52 53 [l0, l1, l2, .int x, l4, l5, l6] st h Q ↔ mm_wp d 52 54 [l0, l1, l2, .int x, l4, l5, l6] (.int x :: st) h Q := wp_iload_n rfl rfl
theorem s52_54 : mm_wp d 52 54 ls (.int x :: .ref a :: st) h Q ↔ (23 ≤ (mm_s h a).1 ∧ (mm_s h a).1 ≤ 26 ∧ mm_in x (mm_s h a).2 = true) ∧ mm_wp d 52 55 ls (mm_o (mm_r h a x.toNatClampNeg) :: st) h Q := wp_aaload rfl
theorem s52_55 : mm_wp d 52 55 [l0, l1, l2, l3, l4, l5, l6] (.ref a :: st) h Q ↔ mm_wp d 52 57 [l0, l1, l2, l3, .ref a, l5, l6] st h Q := wp_astoreR rfl rfl
theorem s52_55o : mm_wp d 52 55 [l0, l1, l2, l3, l4, l5, l6] (mm_o o :: st) h Q ↔ mm_wp d 52 57 [l0, l1, l2, l3, mm_o o, l5, l6] st h Q := wp_astore rfl o rfl
theorem s52_57 : mm_wp d 52 57 [.ref a, l1, l2, l3, l4, l5, l6] st h Q ↔ mm_wp d 52 58 [.ref a, l1, l2, l3, l4, l5, l6] (.ref a :: st) h Q := wp_aloadR_n rfl rfl
theorem s52_58 : mm_wp d 52 58 ls (.ref a :: st) h Q ↔ (mm_s h a).1 = 8 ∧ mm_wp d 52 61 ls (mm_o (mm_r h a 2) :: st) h Q := wp_getR rfl rfl
theorem s52_61 : mm_wp d 52 61 [l0, l1, l2, .int x, l4, l5, l6] st h Q ↔ mm_wp d 52 62 [l0, l1, l2, .int x, l4, l5, l6] (.int x :: st) h Q := wp_iload_n rfl rfl
theorem s52_62 : mm_wp (d + 1) 52 62 ls [.int x2, .ref a] h Q ↔ (mm_s h a).1 = 7 ∧ mm_wp d 59 0 [.ref a, .int x2, mm_j] [] h (mm_bk (d + 1) 52 62 ls [] Q) := wp_virtual rfl rfl ⟨by decide, rfl⟩ ⟨Nat.le_of_ble_eq_true rfl, Nat.le_of_ble_eq_true rfl⟩ rfl rfl rfl rfl rfl rfl
theorem s52_65 : mm_wp d 52 65 ls (mm_o o :: st) h Q ↔ if o = none then mm_wp d 52 68 ls st h Q else mm_wp d 52 72 ls st h Q := wp_ifnonnull (off := 7) rfl rfl o
theorem s52_68 : mm_wp d 52 68 ls st h Q ↔ mm_wp d 52 69 ls (.int (1 : Int32) :: st) h Q := wp_iconst rfl rfl
theorem s52_69 : mm_wp d 52 69 ls st h Q ↔ mm_wp d 52 73 ls st h Q := wp_goto rfl rfl
theorem s52_72 : mm_wp d 52 72 ls st h Q ↔ mm_wp d 52 73 ls (.int (0 : Int32) :: st) h Q := wp_iconst rfl rfl
theorem s52_73 : mm_wp d 52 73 [l0, l1, l2, l3, l4, l5, l6] (.int x :: st) h Q ↔ mm_wp d 52 75 [l0, l1, l2, l3, l4, .int x, l6] st h Q := wp_istore rfl rfl
theorem s52_75 : mm_wp d 52 75 ls st h Q ↔ mm_wp d 52 76 ls (.int (0 : Int32) :: st) h Q := wp_iconst rfl rfl
theorem s52_76 : mm_wp d 52 76 [l0, l1, l2, l3, l4, l5, l6] (.int x :: st) h Q ↔ mm_wp d 52 78 [l0, l1, l2, l3, l4, l5, .int x] st h Q := wp_istore rfl rfl
theorem s52_78 : mm_wp d 52 78 [l0, l1, l2, l3, l4, l5, .int x] st h Q ↔ mm_wp d 52 80 [l0, l1, l2, l3, l4, l5, .int x] (.int x :: st) h Q := wp_iload rfl rfl
theorem s52_80 : mm_wp d 52 80 ls st h Q ↔ mm_wp d 52 82 ls (.int (6 : Int32) :: st) h Q := wp_bipush rfl rfl
theorem s52_82 : mm_wp d 52 82 ls (.int x2 :: .int x :: st) h Q ↔ if x2 ≤ x then mm_wp d 52 128 ls st h Q else mm_wp d 52 85 ls st h Q := wp_icmpge rfl rfl
theorem s52_85 : mm_wp d 52 85 [l0, l1, l2, l3, l4, .int x, l6] st h Q ↔ mm_wp d 52 87 [l0, l1, l2, l3, l4, .int x, l6] (.int x :: st) h Q := wp_iload rfl rfl
theorem s52_87 : mm_wp d 52 87 ls (.int x :: st) h Q ↔ if x = 0 then mm_wp d 52 128 ls st h Q else mm_wp d 52 90 ls st h Q := wp_ifeq rfl rfl
theorem s52_90 : mm_wp d 52 90 [.ref a, l1, l2, l3, l4, l5, l6] st h Q ↔ mm_wp d 52 91 [.ref a, l1, l2, l3, l4, l5, l6] (.ref a :: st) h Q := wp_aloadR_n rfl rfl
theorem s52_91 : mm_wp d 52 91 ls (.ref a :: st) h Q ↔ (mm_s h a).1 = 8 ∧ mm_wp d 52 94 ls (.int (mm_i h a 10) :: st) h Q := wp_getI rfl rfl (by decide) (by decide)
theorem s52_94 : mm_wp d 52 94 ls (.int x :: st) h Q ↔ if x = 0 then mm_wp d 52 97 ls st h Q else mm_wp d 52 128 ls st h Q := wp_ifne rfl rfl
theorem s52_97 : mm_wp d 52 97 [l0, l1, l2, l3, .ref a, l5, l6] st h Q ↔ mm_wp d 52 99 [l0, l1, l2, l3, .ref a, l5, l6] (.ref a :: st) h Q := wp_aloadR rfl rfl
theorem s52_97o : mm_wp d 52 97 [l0, l1, l2, l3, mm_o o, l5, l6] st h Q ↔ mm_wp d 52 99 [l0, l1, l2, l3, mm_o o, l5, l6] (mm_o o :: st) h Q := wp_aload rfl o rfl
theorem s52_99 : mm_wp d 52 99 ls (.ref a :: st) h Q ↔ (mm_s h a).1 = 5 ∧ mm_wp d 52 102 ls (mm_o (mm_r h a 1) :: st) h Q := wp_getR rfl rfl
theorem s52_102 : mm_wp d 52 102 [l0, l1, l2, l3, l4, l5, .int x] st h Q ↔ mm_wp d 52 104 [l0, l1, l2, l3, l4, l5, .int x] (.int x :: st) h Q := wp_iload rfl rfl
theorem s52_104 : mm_wp d 52 104 ls (.int x :: .ref a :: st) h Q ↔ ((mm_s h a).1 = 22 ∧ mm_in x (mm_s h a).2 = true) ∧ mm_wp d 52 105 ls (.int (mm_i h a x.toNatClampNeg) :: st) h Q := wp_baload rfl
theorem s52_105 : mm_wp d 52 105 ls (.int x :: st) h Q ↔ if x = 0 then mm_wp d 52 122 ls st h Q else mm_wp d 52 108 ls st h Q := wp_ifeq rfl rfl
theorem s52_108 : mm_wp d 52 108 [l0, l1, .ref a, l3, l4, l5, l6] st h Q ↔ mm_wp d 52 109 [l0, l1, .ref a, l3, l4, l5, l6] (.ref a :: st) h Q := wp_aloadR_n rfl rfl
theorem s52_108o : mm_wp d 52 108 [l0, l1, mm_o o, l3, l4, l5, l6] st h Q ↔ mm_wp d 52 109 [l0, l1, mm_o o, l3, l4, l5, l6] (mm_o o :: st) h Q := wp_aload_n rfl o rfl
theorem s52_109 : mm_wp d 52 109 [l0, l1, l2, .int x, l4, l5, l6] st h Q ↔ mm_wp d 52 110 [l0, l1, l2, .int x, l4, l5, l6] (.int x :: st) h Q := wp_iload_n rfl rfl
theorem s52_110 : mm_wp d 52 110 [l0, l1, l2, l3, .ref a, l5, l6] st h Q ↔ mm_wp d 52 112 [l0, l1, l2, l3, .ref a, l5, l6] (.ref a :: st) h Q := wp_aloadR rfl rfl
theorem s52_110o : mm_wp d 52 110 [l0, l1, l2, l3, mm_o o, l5, l6] st h Q ↔ mm_wp d 52 112 [l0, l1, l2, l3, mm_o o, l5, l6] (mm_o o :: st) h Q := wp_aload rfl o rfl
theorem s52_112 : mm_wp d 52 112 [l0, l1, l2, l3, l4, l5, .int x] st h Q ↔ mm_wp d 52 114 [l0, l1, l2, l3, l4, l5, .int x] (.int x :: st) h Q := wp_iload rfl rfl
theorem s52_114 : mm_wp (d + 1) 52 114 ls [.int x4, .ref b, .int x2, .ref a] h Q ↔ (mm_s h a).1 = 6 ∧ mm_wp d 60 0 [.ref a, .int x2, .ref b, .int x4] [] h (mm_bk (d + 1) 52 114 ls [] Q) := wp_virtual rfl rfl ⟨by decide, rfl⟩ ⟨Nat.le_of_ble_eq_true rfl, Nat.le_of_ble_eq_true rfl⟩ rfl rfl rfl rfl rfl rfl
theorem s52_117 : mm_wp d 52 117 [.ref a, l1, l2, l3, l4, l5, l6] st h Q ↔ mm_wp d 52 118 [.ref a, l1, l2, l3, l4, l5, l6] (.ref a :: st) h Q := wp_aloadR_n rfl rfl
theorem s52_118 : mm_wp d 52 118 [l0, l1, .ref a, l3, l4, l5, l6] st h Q ↔ mm_wp d 52 119 [l0, l1, .ref a, l3, l4, l5, l6] (.ref a :: st) h Q := wp_aloadR_n rfl rfl
theorem s52_118o : mm_wp d 52 118 [l0, l1, mm_o o, l3, l4, l5, l6] st h Q ↔ mm_wp d 52 119 [l0, l1, mm_o o, l3, l4, l5, l6] (mm_o o :: st) h Q := wp_aload_n rfl o rfl
theorem s52_119 : mm_wp (d + 1) 52 119 ls [.ref b, .ref a] h Q ↔ (mm_s h a).1 = 8 ∧ mm_wp d 61 0 [.ref a, .ref b, mm_j, mm_j, mm_j] [] h (mm_bk (d + 1) 52 119 ls [] Q) := wp_virtual rfl rfl ⟨by decide, rfl⟩ ⟨Nat.le_of_ble_eq_true rfl, Nat.le_of_ble_eq_true rfl⟩ rfl rfl rfl rfl rfl rfl
theorem s52_122 : mm_wp d 52 122 [l0, l1, l2, l3, l4, l5, .int x] st h Q ↔ mm_wp d 52 125 [l0, l1, l2, l3, l4, l5, .int (x + (1 : Int32))] st h Q := wp_iinc rfl rfl rfl rfl
theorem s52_125 : mm_wp d 52 125 ls st h Q ↔ mm_wp d 52 78 ls st h Q := wp_goto rfl rfl
theorem s52_128 : mm_wp d 52 128 [l0, l1, l2, .int x, l4, l5, l6] st h Q ↔ mm_wp d 52 131 [l0, l1, l2, .int (x + (1 : Int32)), l4, l5, l6] st h Q := wp_iinc rfl rfl rfl rfl
theorem s52_131 : mm_wp d 52 131 ls st h Q ↔ mm_wp d 52 28 ls st h Q := wp_goto rfl rfl
theorem s52_134 : mm_wp d 52 134 ls st h Q ↔ Q (.inl none) h := wp_vret rfl rfl
/-! 53: LoadRoom$Search.layFloors(I)V -/
theorem s53_0 : mm_wp d 53 0 [.ref a, l1, l2] st h Q ↔ mm_wp d 53 1 [.ref a, l1, l2] (.ref a :: st) h Q := wp_aloadR_n rfl rfl
theorem s53_1 : mm_wp d 53 1 ls (.ref a :: st) h Q ↔ (mm_s h a).1 = 8 ∧ mm_wp d 53 4 ls (mm_o (mm_r h a 7) :: st) h Q := wp_getR rfl rfl
theorem s53_4 : mm_wp d 53 4 [l0, .int x, l2] st h Q ↔ mm_wp d 53 5 [l0, .int x, l2] (.int x :: st) h Q := wp_iload_n rfl rfl
theorem s53_5 : mm_wp d 53 5 ls st h Q ↔ mm_wp d 53 7 ls (.int (8 : Int32) :: st) h Q := wp_bipush rfl rfl
theorem s53_7 : mm_wp d 53 7 ls (.int x2 :: .int x :: st) h Q ↔ mm_wp d 53 8 ls (.int (x * x2) :: st) h Q := wp_imul rfl
theorem s53_8 : mm_wp d 53 8 ls (.int x :: .ref a :: st) h Q ↔ (23 ≤ (mm_s h a).1 ∧ (mm_s h a).1 ≤ 26 ∧ mm_in x (mm_s h a).2 = true) ∧ mm_wp d 53 9 ls (mm_o (mm_r h a x.toNatClampNeg) :: st) h Q := wp_aaload rfl
theorem s53_9 : mm_wp d 53 9 [.ref a, l1, l2] st h Q ↔ mm_wp d 53 10 [.ref a, l1, l2] (.ref a :: st) h Q := wp_aloadR_n rfl rfl
theorem s53_10 : mm_wp d 53 10 ls (.ref a :: st) h Q ↔ (mm_s h a).1 = 8 ∧ mm_wp d 53 13 ls (mm_o (mm_r h a 0) :: st) h Q := wp_getR rfl rfl
theorem s53_13 : mm_wp (d + 1) 53 13 ls [.ref b, .ref a] h Q ↔ (mm_s h a).1 = 4 ∧ mm_wp d 54 0 [.ref a, .ref b] [] h (mm_bk (d + 1) 53 13 ls [] Q) := wp_virtual rfl rfl ⟨by decide, rfl⟩ ⟨Nat.le_of_ble_eq_true rfl, Nat.le_of_ble_eq_true rfl⟩ rfl rfl rfl rfl rfl rfl
theorem s53_16 : mm_wp d 53 16 ls st h Q ↔ mm_wp d 53 17 ls (.int (1 : Int32) :: st) h Q := wp_iconst rfl rfl
theorem s53_17 : mm_wp d 53 17 [l0, l1, l2] (.int x :: st) h Q ↔ mm_wp d 53 18 [l0, l1, .int x] st h Q := wp_istore_n rfl rfl
theorem s53_18 : mm_wp d 53 18 [l0, l1, .int x] st h Q ↔ mm_wp d 53 19 [l0, l1, .int x] (.int x :: st) h Q := wp_iload_n rfl rfl
theorem s53_19 : mm_wp d 53 19 [.ref a, l1, l2] st h Q ↔ mm_wp d 53 20 [.ref a, l1, l2] (.ref a :: st) h Q := wp_aloadR_n rfl rfl
theorem s53_20 : mm_wp d 53 20 ls (.ref a :: st) h Q ↔ (mm_s h a).1 = 8 ∧ mm_wp d 53 23 ls (mm_o (mm_r h a 5) :: st) h Q := wp_getR rfl rfl
theorem s53_23 : mm_wp d 53 23 [l0, .int x, l2] st h Q ↔ mm_wp d 53 24 [l0, .int x, l2] (.int x :: st) h Q := wp_iload_n rfl rfl
theorem s53_24 : mm_wp (d + 1) 53 24 ls [.int x2, .ref a, t0] h Q ↔ (mm_s h a).1 = 3 ∧ mm_wp d 55 0 [.ref a, .int x2] [] h (mm_bk (d + 1) 53 24 ls [t0] Q) := wp_virtual rfl rfl ⟨by decide, rfl⟩ ⟨Nat.le_of_ble_eq_true rfl, Nat.le_of_ble_eq_true rfl⟩ rfl rfl rfl rfl rfl rfl
theorem s53_27 : mm_wp d 53 27 ls (.int x2 :: .int x :: st) h Q ↔ if x2 ≤ x then mm_wp d 53 63 ls st h Q else mm_wp d 53 30 ls st h Q := wp_icmpge rfl rfl
theorem s53_30 : mm_wp d 53 30 [.ref a, l1, l2] st h Q ↔ mm_wp d 53 31 [.ref a, l1, l2] (.ref a :: st) h Q := wp_aloadR_n rfl rfl
theorem s53_31 : mm_wp d 53 31 ls (.ref a :: st) h Q ↔ (mm_s h a).1 = 8 ∧ mm_wp d 53 34 ls (mm_o (mm_r h a 7) :: st) h Q := wp_getR rfl rfl
theorem s53_34 : mm_wp d 53 34 [l0, .int x, l2] st h Q ↔ mm_wp d 53 35 [l0, .int x, l2] (.int x :: st) h Q := wp_iload_n rfl rfl
theorem s53_35 : mm_wp d 53 35 ls st h Q ↔ mm_wp d 53 37 ls (.int (8 : Int32) :: st) h Q := wp_bipush rfl rfl
theorem s53_37 : mm_wp d 53 37 ls (.int x2 :: .int x :: st) h Q ↔ mm_wp d 53 38 ls (.int (x * x2) :: st) h Q := wp_imul rfl
theorem s53_38 : mm_wp d 53 38 [l0, l1, .int x] st h Q ↔ mm_wp d 53 39 [l0, l1, .int x] (.int x :: st) h Q := wp_iload_n rfl rfl
theorem s53_39 : mm_wp d 53 39 ls (.int x2 :: .int x :: st) h Q ↔ mm_wp d 53 40 ls (.int (x + x2) :: st) h Q := wp_iadd rfl
theorem s53_40 : mm_wp d 53 40 ls (.int x :: .ref a :: st) h Q ↔ (23 ≤ (mm_s h a).1 ∧ (mm_s h a).1 ≤ 26 ∧ mm_in x (mm_s h a).2 = true) ∧ mm_wp d 53 41 ls (mm_o (mm_r h a x.toNatClampNeg) :: st) h Q := wp_aaload rfl
theorem s53_41 : mm_wp d 53 41 [.ref a, l1, l2] st h Q ↔ mm_wp d 53 42 [.ref a, l1, l2] (.ref a :: st) h Q := wp_aloadR_n rfl rfl
theorem s53_42 : mm_wp d 53 42 ls (.ref a :: st) h Q ↔ (mm_s h a).1 = 8 ∧ mm_wp d 53 45 ls (mm_o (mm_r h a 5) :: st) h Q := wp_getR rfl rfl
theorem s53_45 : mm_wp d 53 45 [l0, .int x, l2] st h Q ↔ mm_wp d 53 46 [l0, .int x, l2] (.int x :: st) h Q := wp_iload_n rfl rfl
theorem s53_46 : mm_wp d 53 46 [l0, l1, .int x] st h Q ↔ mm_wp d 53 47 [l0, l1, .int x] (.int x :: st) h Q := wp_iload_n rfl rfl
theorem s53_47 : mm_wp (d + 1) 53 47 ls [.int x3, .int x2, .ref a, t0] h Q ↔ (mm_s h a).1 = 3 ∧ mm_wp d 56 0 [.ref a, .int x2, .int x3] [] h (mm_bk (d + 1) 53 47 ls [t0] Q) := wp_virtual rfl rfl ⟨by decide, rfl⟩ ⟨Nat.le_of_ble_eq_true rfl, Nat.le_of_ble_eq_true rfl⟩ rfl rfl rfl rfl rfl rfl
theorem s53_50 : mm_wp d 53 50 [.ref a, l1, l2] st h Q ↔ mm_wp d 53 51 [.ref a, l1, l2] (.ref a :: st) h Q := wp_aloadR_n rfl rfl
theorem s53_51 : mm_wp d 53 51 ls (.ref a :: st) h Q ↔ (mm_s h a).1 = 8 ∧ mm_wp d 53 54 ls (mm_o (mm_r h a 2) :: st) h Q := wp_getR rfl rfl
theorem s53_54 : mm_wp (d + 1) 53 54 ls [.ref b, .int x2, .ref a] h Q ↔ (mm_s h a).1 = 4 ∧ mm_wp d 57 0 [.ref a, .int x2, .ref b, mm_j] [] h (mm_bk (d + 1) 53 54 ls [] Q) := wp_virtual rfl rfl ⟨by decide, rfl⟩ ⟨Nat.le_of_ble_eq_true rfl, Nat.le_of_ble_eq_true rfl⟩ rfl rfl rfl rfl rfl rfl
theorem s53_57 : mm_wp d 53 57 [l0, l1, .int x] st h Q ↔ mm_wp d 53 60 [l0, l1, .int (x + (1 : Int32))] st h Q := wp_iinc rfl rfl rfl rfl
theorem s53_60 : mm_wp d 53 60 ls st h Q ↔ mm_wp d 53 18 ls st h Q := wp_goto rfl rfl
theorem s53_63 : mm_wp d 53 63 ls st h Q ↔ Q (.inl none) h := wp_vret rfl rfl
/-! 54: LoadRoom$Floor.lay(LLoadRoom$Box;)V -/
theorem s54_0 : mm_wp d 54 0 [.ref a, l1] st h Q ↔ mm_wp d 54 1 [.ref a, l1] (.ref a :: st) h Q := wp_aloadR_n rfl rfl
theorem s54_1 : mm_wp d 54 1 ls st h Q ↔ mm_wp d 54 2 ls (.int (0 : Int32) :: st) h Q := wp_iconst rfl rfl
theorem s54_2 : mm_wp d 54 2 ls (.int x :: .ref a :: st) h Q ↔ (mm_s h a).1 = 4 ∧ mm_wp d 54 5 ls st (mm_pi h a 0 x) Q := wp_putI rfl rfl
theorem s54_5 : mm_wp d 54 5 [.ref a, l1] st h Q ↔ mm_wp d 54 6 [.ref a, l1] (.ref a :: st) h Q := wp_aloadR_n rfl rfl
theorem s54_6 : mm_wp d 54 6 [l0, .ref a] st h Q ↔ mm_wp d 54 7 [l0, .ref a] (.ref a :: st) h Q := wp_aloadR_n rfl rfl
theorem s54_6o : mm_wp d 54 6 [l0, mm_o o] st h Q ↔ mm_wp d 54 7 [l0, mm_o o] (mm_o o :: st) h Q := wp_aload_n rfl o rfl
theorem s54_7 : mm_wp d 54 7 ls (.ref a :: st) h Q ↔ (mm_s h a).1 = 1 ∧ mm_wp d 54 10 ls (.int (mm_i h a 0) :: st) h Q := wp_getI rfl rfl (by decide) (by decide)
theorem s54_10 : mm_wp d 54 10 [l0, .ref a] st h Q ↔ mm_wp d 54 11 [l0, .ref a] (.ref a :: st) h Q := wp_aloadR_n rfl rfl
theorem s54_10o : mm_wp d 54 10 [l0, mm_o o] st h Q ↔ mm_wp d 54 11 [l0, mm_o o] (mm_o o :: st) h Q := wp_aload_n rfl o rfl
theorem s54_11 : mm_wp d 54 11 ls (.ref a :: st) h Q ↔ (mm_s h a).1 = 1 ∧ mm_wp d 54 14 ls (.int (mm_i h a 2) :: st) h Q := wp_getI rfl rfl (by decide) (by decide)
theorem s54_14 : mm_wp d 54 14 ls (.int x2 :: .int x :: st) h Q ↔ mm_wp d 54 15 ls (.int (x * x2) :: st) h Q := wp_imul rfl
theorem s54_15 : mm_wp d 54 15 ls (.int x :: .ref a :: st) h Q ↔ (mm_s h a).1 = 4 ∧ mm_wp d 54 18 ls st (mm_pi h a 1 x) Q := wp_putI rfl rfl
theorem s54_18 : mm_wp d 54 18 [.ref a, l1] st h Q ↔ mm_wp d 54 19 [.ref a, l1] (.ref a :: st) h Q := wp_aloadR_n rfl rfl
theorem s54_19 : mm_wp d 54 19 ls st h Q ↔ mm_wp d 54 20 ls (.int (0 : Int32) :: st) h Q := wp_iconst rfl rfl
theorem s54_20 : mm_wp d 54 20 ls (.int x :: .ref a :: st) h Q ↔ (mm_s h a).1 = 4 ∧ mm_wp d 54 23 ls st (mm_pi h a 2 x) Q := wp_putI rfl rfl
theorem s54_23 : mm_wp d 54 23 [.ref a, l1] st h Q ↔ mm_wp d 54 24 [.ref a, l1] (.ref a :: st) h Q := wp_aloadR_n rfl rfl
theorem s54_24 : mm_wp d 54 24 [l0, .ref a] st h Q ↔ mm_wp d 54 25 [l0, .ref a] (.ref a :: st) h Q := wp_aloadR_n rfl rfl
theorem s54_24o : mm_wp d 54 24 [l0, mm_o o] st h Q ↔ mm_wp d 54 25 [l0, mm_o o] (mm_o o :: st) h Q := wp_aload_n rfl o rfl
theorem s54_25 : mm_wp d 54 25 ls (.ref a :: st) h Q ↔ (mm_s h a).1 = 1 ∧ mm_wp d 54 28 ls (.int (mm_i h a 0) :: st) h Q := wp_getI rfl rfl (by decide) (by decide)
theorem s54_28 : mm_wp d 54 28 ls (.int x :: .ref a :: st) h Q ↔ (mm_s h a).1 = 4 ∧ mm_wp d 54 31 ls st (mm_pi h a 3 x) Q := wp_putI rfl rfl
theorem s54_31 : mm_wp d 54 31 [.ref a, l1] st h Q ↔ mm_wp d 54 32 [.ref a, l1] (.ref a :: st) h Q := wp_aloadR_n rfl rfl
theorem s54_32 : mm_wp d 54 32 ls st h Q ↔ mm_wp d 54 33 ls (.int (0 : Int32) :: st) h Q := wp_iconst rfl rfl
theorem s54_33 : mm_wp d 54 33 ls (.int x :: .ref a :: st) h Q ↔ (mm_s h a).1 = 4 ∧ mm_wp d 54 36 ls st (mm_pi h a 4 x) Q := wp_putI rfl rfl
theorem s54_36 : mm_wp d 54 36 [.ref a, l1] st h Q ↔ mm_wp d 54 37 [.ref a, l1] (.ref a :: st) h Q := wp_aloadR_n rfl rfl
theorem s54_37 : mm_wp d 54 37 [l0, .ref a] st h Q ↔ mm_wp d 54 38 [l0, .ref a] (.ref a :: st) h Q := wp_aloadR_n rfl rfl
theorem s54_37o : mm_wp d 54 37 [l0, mm_o o] st h Q ↔ mm_wp d 54 38 [l0, mm_o o] (mm_o o :: st) h Q := wp_aload_n rfl o rfl
theorem s54_38 : mm_wp d 54 38 ls (.ref a :: st) h Q ↔ (mm_s h a).1 = 1 ∧ mm_wp d 54 41 ls (.int (mm_i h a 2) :: st) h Q := wp_getI rfl rfl (by decide) (by decide)
theorem s54_41 : mm_wp d 54 41 ls (.int x :: .ref a :: st) h Q ↔ (mm_s h a).1 = 4 ∧ mm_wp d 54 44 ls st (mm_pi h a 5 x) Q := wp_putI rfl rfl
theorem s54_44 : mm_wp d 54 44 ls st h Q ↔ Q (.inl none) h := wp_vret rfl rfl
/-! 55: LoadRoom$Ends.count(I)I -/
theorem s55_0 : mm_wp d 55 0 [l0, .int x] st h Q ↔ mm_wp d 55 1 [l0, .int x] (.int x :: st) h Q := wp_iload_n rfl rfl
theorem s55_1 : mm_wp d 55 1 ls (.int x :: st) h Q ↔ if x < 0 then mm_wp d 55 19 ls st h Q else mm_wp d 55 4 ls st h Q := wp_iflt rfl rfl
theorem s55_4 : mm_wp d 55 4 [l0, .int x] st h Q ↔ mm_wp d 55 5 [l0, .int x] (.int x :: st) h Q := wp_iload_n rfl rfl
theorem s55_5 : mm_wp d 55 5 ls st h Q ↔ mm_wp d 55 7 ls (.int (8 : Int32) :: st) h Q := wp_bipush rfl rfl
theorem s55_7 : mm_wp d 55 7 ls (.int x2 :: .int x :: st) h Q ↔ if x2 ≤ x then mm_wp d 55 19 ls st h Q else mm_wp d 55 10 ls st h Q := wp_icmpge rfl rfl
theorem s55_10 : mm_wp d 55 10 [.ref a, l1] st h Q ↔ mm_wp d 55 11 [.ref a, l1] (.ref a :: st) h Q := wp_aloadR_n rfl rfl
theorem s55_11 : mm_wp d 55 11 ls (.ref a :: st) h Q ↔ (mm_s h a).1 = 3 ∧ mm_wp d 55 14 ls (mm_o (mm_r h a 1) :: st) h Q := wp_getR rfl rfl
theorem s55_14 : mm_wp d 55 14 [l0, .int x] st h Q ↔ mm_wp d 55 15 [l0, .int x] (.int x :: st) h Q := wp_iload_n rfl rfl
theorem s55_15 : mm_wp d 55 15 ls (.int x :: .ref a :: st) h Q ↔ ((mm_s h a).1 = 20 ∧ mm_in x (mm_s h a).2 = true) ∧ mm_wp d 55 16 ls (.int (mm_i h a x.toNatClampNeg) :: st) h Q := wp_iaload rfl
theorem s55_16 : mm_wp d 55 16 ls st h Q ↔ mm_wp d 55 20 ls st h Q := wp_goto rfl rfl
theorem s55_19 : mm_wp d 55 19 ls st h Q ↔ mm_wp d 55 20 ls (.int (0 : Int32) :: st) h Q := wp_iconst rfl rfl
theorem s55_20 : mm_wp d 55 20 ls (.int x :: st) h Q ↔ Q (.inl (some (.int x))) h := wp_iret rfl rfl
/-! 56: LoadRoom$Ends.get(II)I -/
theorem s56_0 : mm_wp d 56 0 [l0, l1, .int x] st h Q ↔ mm_wp d 56 1 [l0, l1, .int x] (.int x :: st) h Q := wp_iload_n rfl rfl
theorem s56_1 : mm_wp d 56 1 ls (.int x :: st) h Q ↔ if x < 0 then mm_wp d 56 24 ls st h Q else mm_wp d 56 4 ls st h Q := wp_iflt rfl rfl
theorem s56_4 : mm_wp d 56 4 [l0, l1, .int x] st h Q ↔ mm_wp d 56 5 [l0, l1, .int x] (.int x :: st) h Q := wp_iload_n rfl rfl
theorem s56_5 : mm_wp d 56 5 [.ref a, l1, l2] st h Q ↔ mm_wp d 56 6 [.ref a, l1, l2] (.ref a :: st) h Q := wp_aloadR_n rfl rfl
theorem s56_6 : mm_wp d 56 6 [l0, .int x, l2] st h Q ↔ mm_wp d 56 7 [l0, .int x, l2] (.int x :: st) h Q := wp_iload_n rfl rfl
theorem s56_7 : mm_wp (d + 1) 56 7 ls [.int x2, .ref a, t0] h Q ↔ (mm_s h a).1 = 3 ∧ mm_wp d 55 0 [.ref a, .int x2] [] h (mm_bk (d + 1) 56 7 ls [t0] Q) := wp_virtual rfl rfl ⟨by decide, rfl⟩ ⟨Nat.le_of_ble_eq_true rfl, Nat.le_of_ble_eq_true rfl⟩ rfl rfl rfl rfl rfl rfl
theorem s56_10 : mm_wp d 56 10 ls (.int x2 :: .int x :: st) h Q ↔ if x2 ≤ x then mm_wp d 56 24 ls st h Q else mm_wp d 56 13 ls st h Q := wp_icmpge rfl rfl
theorem s56_13 : mm_wp d 56 13 [.ref a, l1, l2] st h Q ↔ mm_wp d 56 14 [.ref a, l1, l2] (.ref a :: st) h Q := wp_aloadR_n rfl rfl
theorem s56_14 : mm_wp d 56 14 ls (.ref a :: st) h Q ↔ (mm_s h a).1 = 3 ∧ mm_wp d 56 17 ls (mm_o (mm_r h a 0) :: st) h Q := wp_getR rfl rfl
theorem s56_17 : mm_wp d 56 17 [l0, .int x, l2] st h Q ↔ mm_wp d 56 18 [l0, .int x, l2] (.int x :: st) h Q := wp_iload_n rfl rfl
theorem s56_18 : mm_wp d 56 18 ls (.int x :: .ref a :: st) h Q ↔ (23 ≤ (mm_s h a).1 ∧ (mm_s h a).1 ≤ 26 ∧ mm_in x (mm_s h a).2 = true) ∧ mm_wp d 56 19 ls (mm_o (mm_r h a x.toNatClampNeg) :: st) h Q := wp_aaload rfl
theorem s56_19 : mm_wp d 56 19 [l0, l1, .int x] st h Q ↔ mm_wp d 56 20 [l0, l1, .int x] (.int x :: st) h Q := wp_iload_n rfl rfl
theorem s56_20 : mm_wp d 56 20 ls (.int x :: .ref a :: st) h Q ↔ ((mm_s h a).1 = 20 ∧ mm_in x (mm_s h a).2 = true) ∧ mm_wp d 56 21 ls (.int (mm_i h a x.toNatClampNeg) :: st) h Q := wp_iaload rfl
theorem s56_21 : mm_wp d 56 21 ls st h Q ↔ mm_wp d 56 25 ls st h Q := wp_goto rfl rfl
theorem s56_24 : mm_wp d 56 24 ls st h Q ↔ mm_wp d 56 25 ls (.int (0 : Int32) :: st) h Q := wp_iconst rfl rfl
theorem s56_25 : mm_wp d 56 25 ls (.int x :: st) h Q ↔ Q (.inl (some (.int x))) h := wp_iret rfl rfl
/-! 57: LoadRoom$Floor.lay(ILLoadRoom$Row;)V -/
theorem s57_0 : mm_wp d 57 0 [.ref a, l1, l2, l3] st h Q ↔ mm_wp d 57 1 [.ref a, l1, l2, l3] (.ref a :: st) h Q := wp_aloadR_n rfl rfl
theorem s57_1 : mm_wp d 57 1 [l0, .int x, l2, l3] st h Q ↔ mm_wp d 57 2 [l0, .int x, l2, l3] (.int x :: st) h Q := wp_iload_n rfl rfl
theorem s57_2 : mm_wp d 57 2 ls (.int x :: .ref a :: st) h Q ↔ (mm_s h a).1 = 4 ∧ mm_wp d 57 5 ls st (mm_pi h a 0 x) Q := wp_putI rfl rfl
theorem s57_5 : mm_wp d 57 5 [.ref a, l1, l2, l3] st h Q ↔ mm_wp d 57 6 [.ref a, l1, l2, l3] (.ref a :: st) h Q := wp_aloadR_n rfl rfl
theorem s57_6 : mm_wp d 57 6 ls st h Q ↔ mm_wp d 57 7 ls (.int (0 : Int32) :: st) h Q := wp_iconst rfl rfl
theorem s57_7 : mm_wp d 57 7 ls (.int x :: .ref a :: st) h Q ↔ (mm_s h a).1 = 4 ∧ mm_wp d 57 10 ls st (mm_pi h a 1 x) Q := wp_putI rfl rfl
theorem s57_10 : mm_wp d 57 10 ls st h Q ↔ mm_wp d 57 11 ls (.int (0 : Int32) :: st) h Q := wp_iconst rfl rfl
theorem s57_11 : mm_wp d 57 11 [l0, l1, l2, l3] (.int x :: st) h Q ↔ mm_wp d 57 12 [l0, l1, l2, .int x] st h Q := wp_istore_n rfl rfl
theorem s57_12 : mm_wp d 57 12 [l0, l1, l2, .int x] st h Q ↔ mm_wp d 57 13 [l0, l1, l2, .int x] (.int x :: st) h Q := wp_iload_n rfl rfl
theorem s57_13 : mm_wp d 57 13 [l0, l1, .ref a, l3] st h Q ↔ mm_wp d 57 14 [l0, l1, .ref a, l3] (.ref a :: st) h Q := wp_aloadR_n rfl rfl
theorem s57_13o : mm_wp d 57 13 [l0, l1, mm_o o, l3] st h Q ↔ mm_wp d 57 14 [l0, l1, mm_o o, l3] (mm_o o :: st) h Q := wp_aload_n rfl o rfl
theorem s57_14 : mm_wp d 57 14 ls (.ref a :: st) h Q ↔ (mm_s h a).1 = 7 ∧ mm_wp d 57 17 ls (.int (mm_i h a 1) :: st) h Q := wp_getI rfl rfl (by decide) (by decide)
theorem s57_17 : mm_wp d 57 17 ls (.int x2 :: .int x :: st) h Q ↔ if x2 ≤ x then mm_wp d 57 49 ls st h Q else mm_wp d 57 20 ls st h Q := wp_icmpge rfl rfl
theorem s57_20 : mm_wp d 57 20 [l0, l1, .ref a, l3] st h Q ↔ mm_wp d 57 21 [l0, l1, .ref a, l3] (.ref a :: st) h Q := wp_aloadR_n rfl rfl
theorem s57_20o : mm_wp d 57 20 [l0, l1, mm_o o, l3] st h Q ↔ mm_wp d 57 21 [l0, l1, mm_o o, l3] (mm_o o :: st) h Q := wp_aload_n rfl o rfl
theorem s57_21 : mm_wp d 57 21 ls (.ref a :: st) h Q ↔ (mm_s h a).1 = 7 ∧ mm_wp d 57 24 ls (mm_o (mm_r h a 0) :: st) h Q := wp_getR rfl rfl
theorem s57_24 : mm_wp d 57 24 [l0, l1, l2, .int x] st h Q ↔ mm_wp d 57 25 [l0, l1, l2, .int x] (.int x :: st) h Q := wp_iload_n rfl rfl
theorem s57_25 : mm_wp d 57 25 ls (.int x :: .ref a :: st) h Q ↔ (23 ≤ (mm_s h a).1 ∧ (mm_s h a).1 ≤ 26 ∧ mm_in x (mm_s h a).2 = true) ∧ mm_wp d 57 26 ls (mm_o (mm_r h a x.toNatClampNeg) :: st) h Q := wp_aaload rfl
theorem s57_26 : mm_wp d 57 26 ls (.ref a :: st) h Q ↔ (mm_s h a).1 = 6 ∧ mm_wp d 57 29 ls (.int (mm_i h a 7) :: st) h Q := wp_getI rfl rfl (by decide) (by decide)
theorem s57_29 : mm_wp d 57 29 [l0, .int x, l2, l3] st h Q ↔ mm_wp d 57 30 [l0, .int x, l2, l3] (.int x :: st) h Q := wp_iload_n rfl rfl
theorem s57_30 : mm_wp d 57 30 ls (.int x2 :: .int x :: st) h Q ↔ if x = x2 then mm_wp d 57 33 ls st h Q else mm_wp d 57 43 ls st h Q := wp_icmpne rfl rfl
theorem s57_33 : mm_wp d 57 33 [.ref a, l1, l2, l3] st h Q ↔ mm_wp d 57 34 [.ref a, l1, l2, l3] (.ref a :: st) h Q := wp_aloadR_n rfl rfl
theorem s57_34 : mm_wp d 57 34 [l0, l1, .ref a, l3] st h Q ↔ mm_wp d 57 35 [l0, l1, .ref a, l3] (.ref a :: st) h Q := wp_aloadR_n rfl rfl
theorem s57_34o : mm_wp d 57 34 [l0, l1, mm_o o, l3] st h Q ↔ mm_wp d 57 35 [l0, l1, mm_o o, l3] (mm_o o :: st) h Q := wp_aload_n rfl o rfl
theorem s57_35 : mm_wp d 57 35 ls (.ref a :: st) h Q ↔ (mm_s h a).1 = 7 ∧ mm_wp d 57 38 ls (mm_o (mm_r h a 0) :: st) h Q := wp_getR rfl rfl
theorem s57_38 : mm_wp d 57 38 [l0, l1, l2, .int x] st h Q ↔ mm_wp d 57 39 [l0, l1, l2, .int x] (.int x :: st) h Q := wp_iload_n rfl rfl
theorem s57_39 : mm_wp d 57 39 ls (.int x :: .ref a :: st) h Q ↔ (23 ≤ (mm_s h a).1 ∧ (mm_s h a).1 ≤ 26 ∧ mm_in x (mm_s h a).2 = true) ∧ mm_wp d 57 40 ls (mm_o (mm_r h a x.toNatClampNeg) :: st) h Q := wp_aaload rfl
theorem s57_40 : mm_wp (d + 1) 57 40 ls [.ref b, .ref a] h Q ↔ (mm_s h a).1 = 4 ∧ mm_wp d 58 0 [.ref a, .ref b, mm_j] [] h (mm_bk (d + 1) 57 40 ls [] Q) := wp_virtual rfl rfl ⟨by decide, rfl⟩ ⟨Nat.le_of_ble_eq_true rfl, Nat.le_of_ble_eq_true rfl⟩ rfl rfl rfl rfl rfl rfl
theorem s57_43 : mm_wp d 57 43 [l0, l1, l2, .int x] st h Q ↔ mm_wp d 57 46 [l0, l1, l2, .int (x + (1 : Int32))] st h Q := wp_iinc rfl rfl rfl rfl
theorem s57_46 : mm_wp d 57 46 ls st h Q ↔ mm_wp d 57 12 ls st h Q := wp_goto rfl rfl
theorem s57_49 : mm_wp d 57 49 ls st h Q ↔ Q (.inl none) h := wp_vret rfl rfl
/-! 58: LoadRoom$Floor.widen(LLoadRoom$Placed;)V -/
theorem s58_0 : mm_wp d 58 0 [.ref a, l1, l2] st h Q ↔ mm_wp d 58 1 [.ref a, l1, l2] (.ref a :: st) h Q := wp_aloadR_n rfl rfl
theorem s58_1 : mm_wp d 58 1 ls (.ref a :: st) h Q ↔ (mm_s h a).1 = 4 ∧ mm_wp d 58 4 ls (.int (mm_i h a 1) :: st) h Q := wp_getI rfl rfl (by decide) (by decide)
theorem s58_4 : mm_wp d 58 4 ls (.int x :: st) h Q ↔ if x = 0 then mm_wp d 58 7 ls st h Q else mm_wp d 58 11 ls st h Q := wp_ifne rfl rfl
theorem s58_7 : mm_wp d 58 7 ls st h Q ↔ mm_wp d 58 8 ls (.int (1 : Int32) :: st) h Q := wp_iconst rfl rfl
theorem s58_8 : mm_wp d 58 8 ls st h Q ↔ mm_wp d 58 12 ls st h Q := wp_goto rfl rfl
theorem s58_11 : mm_wp d 58 11 ls st h Q ↔ mm_wp d 58 12 ls (.int (0 : Int32) :: st) h Q := wp_iconst rfl rfl
theorem s58_12 : mm_wp d 58 12 [l0, l1, l2] (.int x :: st) h Q ↔ mm_wp d 58 13 [l0, l1, .int x] st h Q := wp_istore_n rfl rfl
theorem s58_13 : mm_wp d 58 13 [.ref a, l1, l2] st h Q ↔ mm_wp d 58 14 [.ref a, l1, l2] (.ref a :: st) h Q := wp_aloadR_n rfl rfl
theorem s58_14 : mm_wp d 58 14 ls (.ref a :: st) h Q ↔ mm_wp d 58 15 ls (.ref a :: .ref a :: st) h Q := wp_dupR rfl
theorem s58_15 : mm_wp d 58 15 ls (.ref a :: st) h Q ↔ (mm_s h a).1 = 4 ∧ mm_wp d 58 18 ls (.int (mm_i h a 1) :: st) h Q := wp_getI rfl rfl (by decide) (by decide)
theorem s58_18 : mm_wp d 58 18 [l0, .ref a, l2] st h Q ↔ mm_wp d 58 19 [l0, .ref a, l2] (.ref a :: st) h Q := wp_aloadR_n rfl rfl
theorem s58_18o : mm_wp d 58 18 [l0, mm_o o, l2] st h Q ↔ mm_wp d 58 19 [l0, mm_o o, l2] (mm_o o :: st) h Q := wp_aload_n rfl o rfl
theorem s58_19 : mm_wp d 58 19 ls (.ref a :: st) h Q ↔ (mm_s h a).1 = 6 ∧ mm_wp d 58 22 ls (.int (mm_i h a 9) :: st) h Q := wp_getI rfl rfl (by decide) (by decide)
theorem s58_22 : mm_wp d 58 22 [l0, .ref a, l2] st h Q ↔ mm_wp d 58 23 [l0, .ref a, l2] (.ref a :: st) h Q := wp_aloadR_n rfl rfl
theorem s58_22o : mm_wp d 58 22 [l0, mm_o o, l2] st h Q ↔ mm_wp d 58 23 [l0, mm_o o, l2] (mm_o o :: st) h Q := wp_aload_n rfl o rfl
theorem s58_23 : mm_wp d 58 23 ls (.ref a :: st) h Q ↔ (mm_s h a).1 = 6 ∧ mm_wp d 58 26 ls (.int (mm_i h a 11) :: st) h Q := wp_getI rfl rfl (by decide) (by decide)
theorem s58_26 : mm_wp d 58 26 ls (.int x2 :: .int x :: st) h Q ↔ mm_wp d 58 27 ls (.int (x * x2) :: st) h Q := wp_imul rfl
theorem s58_27 : mm_wp d 58 27 ls (.int x2 :: .int x :: st) h Q ↔ mm_wp d 58 28 ls (.int (x + x2) :: st) h Q := wp_iadd rfl
theorem s58_28 : mm_wp d 58 28 ls (.int x :: .ref a :: st) h Q ↔ (mm_s h a).1 = 4 ∧ mm_wp d 58 31 ls st (mm_pi h a 1 x) Q := wp_putI rfl rfl
theorem s58_31 : mm_wp d 58 31 [.ref a, l1, l2] st h Q ↔ mm_wp d 58 32 [.ref a, l1, l2] (.ref a :: st) h Q := wp_aloadR_n rfl rfl
theorem s58_32 : mm_wp d 58 32 [l0, l1, .int x] st h Q ↔ mm_wp d 58 33 [l0, l1, .int x] (.int x :: st) h Q := wp_iload_n rfl rfl
theorem s58_33 : mm_wp d 58 33 ls (.int x :: st) h Q ↔ if x = 0 then mm_wp d 58 43 ls st h Q else mm_wp d 58 36 ls st h Q := wp_ifeq rfl rfl
theorem s58_36 : mm_wp d 58 36 [l0, .ref a, l2] st h Q ↔ mm_wp d 58 37 [l0, .ref a, l2] (.ref a :: st) h Q := wp_aloadR_n rfl rfl
theorem s58_36o : mm_wp d 58 36 [l0, mm_o o, l2] st h Q ↔ mm_wp d 58 37 [l0, mm_o o, l2] (mm_o o :: st) h Q := wp_aload_n rfl o rfl
theorem s58_37 : mm_wp d 58 37 ls (.ref a :: st) h Q ↔ (mm_s h a).1 = 6 ∧ mm_wp d 58 40 ls (.int (mm_i h a 3) :: st) h Q := wp_getI rfl rfl (by decide) (by decide)
theorem s58_40 : mm_wp d 58 40 ls st h Q ↔ mm_wp d 58 54 ls st h Q := wp_goto rfl rfl
theorem s58_43 : mm_wp d 58 43 [.ref a, l1, l2] st h Q ↔ mm_wp d 58 44 [.ref a, l1, l2] (.ref a :: st) h Q := wp_aloadR_n rfl rfl
theorem s58_44 : mm_wp d 58 44 ls (.ref a :: st) h Q ↔ (mm_s h a).1 = 4 ∧ mm_wp d 58 47 ls (.int (mm_i h a 2) :: st) h Q := wp_getI rfl rfl (by decide) (by decide)
theorem s58_47 : mm_wp d 58 47 [l0, .ref a, l2] st h Q ↔ mm_wp d 58 48 [l0, .ref a, l2] (.ref a :: st) h Q := wp_aloadR_n rfl rfl
theorem s58_47o : mm_wp d 58 47 [l0, mm_o o, l2] st h Q ↔ mm_wp d 58 48 [l0, mm_o o, l2] (mm_o o :: st) h Q := wp_aload_n rfl o rfl
theorem s58_48 : mm_wp d 58 48 ls (.ref a :: st) h Q ↔ (mm_s h a).1 = 6 ∧ mm_wp d 58 51 ls (.int (mm_i h a 3) :: st) h Q := wp_getI rfl rfl (by decide) (by decide)
theorem s58_51 : mm_wp (d + 1) 58 51 ls [.int x2, .int x, t0] h Q ↔ mm_wp d 3 0 [.int x, .int x2] [] h (mm_bk (d + 1) 58 51 ls [t0] Q) := wp_static rfl rfl ⟨by decide, rfl⟩ ⟨Nat.le_of_ble_eq_true rfl, Nat.le_of_ble_eq_true rfl⟩ rfl rfl rfl rfl
theorem s58_54 : mm_wp d 58 54 ls (.int x :: .ref a :: st) h Q ↔ (mm_s h a).1 = 4 ∧ mm_wp d 58 57 ls st (mm_pi h a 2 x) Q := wp_putI rfl rfl
theorem s58_57 : mm_wp d 58 57 [.ref a, l1, l2] st h Q ↔ mm_wp d 58 58 [.ref a, l1, l2] (.ref a :: st) h Q := wp_aloadR_n rfl rfl
theorem s58_58 : mm_wp d 58 58 [l0, l1, .int x] st h Q ↔ mm_wp d 58 59 [l0, l1, .int x] (.int x :: st) h Q := wp_iload_n rfl rfl
theorem s58_59 : mm_wp d 58 59 ls (.int x :: st) h Q ↔ if x = 0 then mm_wp d 58 69 ls st h Q else mm_wp d 58 62 ls st h Q := wp_ifeq rfl rfl
theorem s58_62 : mm_wp d 58 62 [l0, .ref a, l2] st h Q ↔ mm_wp d 58 63 [l0, .ref a, l2] (.ref a :: st) h Q := wp_aloadR_n rfl rfl
theorem s58_62o : mm_wp d 58 62 [l0, mm_o o, l2] st h Q ↔ mm_wp d 58 63 [l0, mm_o o, l2] (mm_o o :: st) h Q := wp_aload_n rfl o rfl
theorem s58_63 : mm_wp d 58 63 ls (.ref a :: st) h Q ↔ (mm_s h a).1 = 6 ∧ mm_wp d 58 66 ls (.int (mm_i h a 6) :: st) h Q := wp_getI rfl rfl (by decide) (by decide)
theorem s58_66 : mm_wp d 58 66 ls st h Q ↔ mm_wp d 58 80 ls st h Q := wp_goto rfl rfl
theorem s58_69 : mm_wp d 58 69 [.ref a, l1, l2] st h Q ↔ mm_wp d 58 70 [.ref a, l1, l2] (.ref a :: st) h Q := wp_aloadR_n rfl rfl
theorem s58_70 : mm_wp d 58 70 ls (.ref a :: st) h Q ↔ (mm_s h a).1 = 4 ∧ mm_wp d 58 73 ls (.int (mm_i h a 3) :: st) h Q := wp_getI rfl rfl (by decide) (by decide)
theorem s58_73 : mm_wp d 58 73 [l0, .ref a, l2] st h Q ↔ mm_wp d 58 74 [l0, .ref a, l2] (.ref a :: st) h Q := wp_aloadR_n rfl rfl
theorem s58_73o : mm_wp d 58 73 [l0, mm_o o, l2] st h Q ↔ mm_wp d 58 74 [l0, mm_o o, l2] (mm_o o :: st) h Q := wp_aload_n rfl o rfl
theorem s58_74 : mm_wp d 58 74 ls (.ref a :: st) h Q ↔ (mm_s h a).1 = 6 ∧ mm_wp d 58 77 ls (.int (mm_i h a 6) :: st) h Q := wp_getI rfl rfl (by decide) (by decide)
theorem s58_77 : mm_wp (d + 1) 58 77 ls [.int x2, .int x, t0] h Q ↔ mm_wp d 4 0 [.int x, .int x2] [] h (mm_bk (d + 1) 58 77 ls [t0] Q) := wp_static rfl rfl ⟨by decide, rfl⟩ ⟨Nat.le_of_ble_eq_true rfl, Nat.le_of_ble_eq_true rfl⟩ rfl rfl rfl rfl
theorem s58_80 : mm_wp d 58 80 ls (.int x :: .ref a :: st) h Q ↔ (mm_s h a).1 = 4 ∧ mm_wp d 58 83 ls st (mm_pi h a 3 x) Q := wp_putI rfl rfl
theorem s58_83 : mm_wp d 58 83 [.ref a, l1, l2] st h Q ↔ mm_wp d 58 84 [.ref a, l1, l2] (.ref a :: st) h Q := wp_aloadR_n rfl rfl
theorem s58_84 : mm_wp d 58 84 [l0, l1, .int x] st h Q ↔ mm_wp d 58 85 [l0, l1, .int x] (.int x :: st) h Q := wp_iload_n rfl rfl
theorem s58_85 : mm_wp d 58 85 ls (.int x :: st) h Q ↔ if x = 0 then mm_wp d 58 95 ls st h Q else mm_wp d 58 88 ls st h Q := wp_ifeq rfl rfl
theorem s58_88 : mm_wp d 58 88 [l0, .ref a, l2] st h Q ↔ mm_wp d 58 89 [l0, .ref a, l2] (.ref a :: st) h Q := wp_aloadR_n rfl rfl
theorem s58_88o : mm_wp d 58 88 [l0, mm_o o, l2] st h Q ↔ mm_wp d 58 89 [l0, mm_o o, l2] (mm_o o :: st) h Q := wp_aload_n rfl o rfl
theorem s58_89 : mm_wp d 58 89 ls (.ref a :: st) h Q ↔ (mm_s h a).1 = 6 ∧ mm_wp d 58 92 ls (.int (mm_i h a 5) :: st) h Q := wp_getI rfl rfl (by decide) (by decide)
theorem s58_92 : mm_wp d 58 92 ls st h Q ↔ mm_wp d 58 106 ls st h Q := wp_goto rfl rfl
theorem s58_95 : mm_wp d 58 95 [.ref a, l1, l2] st h Q ↔ mm_wp d 58 96 [.ref a, l1, l2] (.ref a :: st) h Q := wp_aloadR_n rfl rfl
theorem s58_96 : mm_wp d 58 96 ls (.ref a :: st) h Q ↔ (mm_s h a).1 = 4 ∧ mm_wp d 58 99 ls (.int (mm_i h a 4) :: st) h Q := wp_getI rfl rfl (by decide) (by decide)
theorem s58_99 : mm_wp d 58 99 [l0, .ref a, l2] st h Q ↔ mm_wp d 58 100 [l0, .ref a, l2] (.ref a :: st) h Q := wp_aloadR_n rfl rfl
theorem s58_99o : mm_wp d 58 99 [l0, mm_o o, l2] st h Q ↔ mm_wp d 58 100 [l0, mm_o o, l2] (mm_o o :: st) h Q := wp_aload_n rfl o rfl
theorem s58_100 : mm_wp d 58 100 ls (.ref a :: st) h Q ↔ (mm_s h a).1 = 6 ∧ mm_wp d 58 103 ls (.int (mm_i h a 5) :: st) h Q := wp_getI rfl rfl (by decide) (by decide)
theorem s58_103 : mm_wp (d + 1) 58 103 ls [.int x2, .int x, t0] h Q ↔ mm_wp d 3 0 [.int x, .int x2] [] h (mm_bk (d + 1) 58 103 ls [t0] Q) := wp_static rfl rfl ⟨by decide, rfl⟩ ⟨Nat.le_of_ble_eq_true rfl, Nat.le_of_ble_eq_true rfl⟩ rfl rfl rfl rfl
theorem s58_106 : mm_wp d 58 106 ls (.int x :: .ref a :: st) h Q ↔ (mm_s h a).1 = 4 ∧ mm_wp d 58 109 ls st (mm_pi h a 4 x) Q := wp_putI rfl rfl
theorem s58_109 : mm_wp d 58 109 [.ref a, l1, l2] st h Q ↔ mm_wp d 58 110 [.ref a, l1, l2] (.ref a :: st) h Q := wp_aloadR_n rfl rfl
theorem s58_110 : mm_wp d 58 110 [l0, l1, .int x] st h Q ↔ mm_wp d 58 111 [l0, l1, .int x] (.int x :: st) h Q := wp_iload_n rfl rfl
theorem s58_111 : mm_wp d 58 111 ls (.int x :: st) h Q ↔ if x = 0 then mm_wp d 58 121 ls st h Q else mm_wp d 58 114 ls st h Q := wp_ifeq rfl rfl
theorem s58_114 : mm_wp d 58 114 [l0, .ref a, l2] st h Q ↔ mm_wp d 58 115 [l0, .ref a, l2] (.ref a :: st) h Q := wp_aloadR_n rfl rfl
theorem s58_114o : mm_wp d 58 114 [l0, mm_o o, l2] st h Q ↔ mm_wp d 58 115 [l0, mm_o o, l2] (mm_o o :: st) h Q := wp_aload_n rfl o rfl
theorem s58_115 : mm_wp d 58 115 ls (.ref a :: st) h Q ↔ (mm_s h a).1 = 6 ∧ mm_wp d 58 118 ls (.int (mm_i h a 8) :: st) h Q := wp_getI rfl rfl (by decide) (by decide)
theorem s58_118 : mm_wp d 58 118 ls st h Q ↔ mm_wp d 58 132 ls st h Q := wp_goto rfl rfl
theorem s58_121 : mm_wp d 58 121 [.ref a, l1, l2] st h Q ↔ mm_wp d 58 122 [.ref a, l1, l2] (.ref a :: st) h Q := wp_aloadR_n rfl rfl
theorem s58_122 : mm_wp d 58 122 ls (.ref a :: st) h Q ↔ (mm_s h a).1 = 4 ∧ mm_wp d 58 125 ls (.int (mm_i h a 5) :: st) h Q := wp_getI rfl rfl (by decide) (by decide)
theorem s58_125 : mm_wp d 58 125 [l0, .ref a, l2] st h Q ↔ mm_wp d 58 126 [l0, .ref a, l2] (.ref a :: st) h Q := wp_aloadR_n rfl rfl
theorem s58_125o : mm_wp d 58 125 [l0, mm_o o, l2] st h Q ↔ mm_wp d 58 126 [l0, mm_o o, l2] (mm_o o :: st) h Q := wp_aload_n rfl o rfl
theorem s58_126 : mm_wp d 58 126 ls (.ref a :: st) h Q ↔ (mm_s h a).1 = 6 ∧ mm_wp d 58 129 ls (.int (mm_i h a 8) :: st) h Q := wp_getI rfl rfl (by decide) (by decide)
theorem s58_129 : mm_wp (d + 1) 58 129 ls [.int x2, .int x, t0] h Q ↔ mm_wp d 4 0 [.int x, .int x2] [] h (mm_bk (d + 1) 58 129 ls [t0] Q) := wp_static rfl rfl ⟨by decide, rfl⟩ ⟨Nat.le_of_ble_eq_true rfl, Nat.le_of_ble_eq_true rfl⟩ rfl rfl rfl rfl
theorem s58_132 : mm_wp d 58 132 ls (.int x :: .ref a :: st) h Q ↔ (mm_s h a).1 = 4 ∧ mm_wp d 58 135 ls st (mm_pi h a 5 x) Q := wp_putI rfl rfl
theorem s58_135 : mm_wp d 58 135 ls st h Q ↔ Q (.inl none) h := wp_vret rfl rfl
/-! 59: LoadRoom$Row.find(I)LLoadRoom$Placed; -/
theorem s59_0 : mm_wp d 59 0 ls st h Q ↔ mm_wp d 59 1 ls (.int (0 : Int32) :: st) h Q := wp_iconst rfl rfl
theorem s59_1 : mm_wp d 59 1 [l0, l1, l2] (.int x :: st) h Q ↔ mm_wp d 59 2 [l0, l1, .int x] st h Q := wp_istore_n rfl rfl
theorem s59_2 : mm_wp d 59 2 [l0, l1, .int x] st h Q ↔ mm_wp d 59 3 [l0, l1, .int x] (.int x :: st) h Q := wp_iload_n rfl rfl
theorem s59_3 : mm_wp d 59 3 [.ref a, l1, l2] st h Q ↔ mm_wp d 59 4 [.ref a, l1, l2] (.ref a :: st) h Q := wp_aloadR_n rfl rfl
theorem s59_4 : mm_wp d 59 4 ls (.ref a :: st) h Q ↔ (mm_s h a).1 = 7 ∧ mm_wp d 59 7 ls (.int (mm_i h a 1) :: st) h Q := wp_getI rfl rfl (by decide) (by decide)
theorem s59_7 : mm_wp d 59 7 ls (.int x2 :: .int x :: st) h Q ↔ if x2 ≤ x then mm_wp d 59 36 ls st h Q else mm_wp d 59 10 ls st h Q := wp_icmpge rfl rfl
theorem s59_10 : mm_wp d 59 10 [.ref a, l1, l2] st h Q ↔ mm_wp d 59 11 [.ref a, l1, l2] (.ref a :: st) h Q := wp_aloadR_n rfl rfl
theorem s59_11 : mm_wp d 59 11 ls (.ref a :: st) h Q ↔ (mm_s h a).1 = 7 ∧ mm_wp d 59 14 ls (mm_o (mm_r h a 0) :: st) h Q := wp_getR rfl rfl
theorem s59_14 : mm_wp d 59 14 [l0, l1, .int x] st h Q ↔ mm_wp d 59 15 [l0, l1, .int x] (.int x :: st) h Q := wp_iload_n rfl rfl
theorem s59_15 : mm_wp d 59 15 ls (.int x :: .ref a :: st) h Q ↔ (23 ≤ (mm_s h a).1 ∧ (mm_s h a).1 ≤ 26 ∧ mm_in x (mm_s h a).2 = true) ∧ mm_wp d 59 16 ls (mm_o (mm_r h a x.toNatClampNeg) :: st) h Q := wp_aaload rfl
theorem s59_16 : mm_wp d 59 16 ls (.ref a :: st) h Q ↔ (mm_s h a).1 = 6 ∧ mm_wp d 59 19 ls (.int (mm_i h a 1) :: st) h Q := wp_getI rfl rfl (by decide) (by decide)
theorem s59_19 : mm_wp d 59 19 [l0, .int x, l2] st h Q ↔ mm_wp d 59 20 [l0, .int x, l2] (.int x :: st) h Q := wp_iload_n rfl rfl
theorem s59_20 : mm_wp d 59 20 ls (.int x2 :: .int x :: st) h Q ↔ if x = x2 then mm_wp d 59 23 ls st h Q else mm_wp d 59 30 ls st h Q := wp_icmpne rfl rfl
theorem s59_23 : mm_wp d 59 23 [.ref a, l1, l2] st h Q ↔ mm_wp d 59 24 [.ref a, l1, l2] (.ref a :: st) h Q := wp_aloadR_n rfl rfl
theorem s59_24 : mm_wp d 59 24 ls (.ref a :: st) h Q ↔ (mm_s h a).1 = 7 ∧ mm_wp d 59 27 ls (mm_o (mm_r h a 0) :: st) h Q := wp_getR rfl rfl
theorem s59_27 : mm_wp d 59 27 [l0, l1, .int x] st h Q ↔ mm_wp d 59 28 [l0, l1, .int x] (.int x :: st) h Q := wp_iload_n rfl rfl
theorem s59_28 : mm_wp d 59 28 ls (.int x :: .ref a :: st) h Q ↔ (23 ≤ (mm_s h a).1 ∧ (mm_s h a).1 ≤ 26 ∧ mm_in x (mm_s h a).2 = true) ∧ mm_wp d 59 29 ls (mm_o (mm_r h a x.toNatClampNeg) :: st) h Q := wp_aaload rfl
theorem s59_29 : mm_wp d 59 29 ls (.ref a :: st) h Q ↔ Q (.inl (some (.ref a))) h := wp_aret rfl rfl (some a)
theorem s59_29o : mm_wp d 59 29 ls (mm_o o :: st) h Q ↔ Q (.inl (some (mm_o o))) h := wp_aret rfl rfl o
theorem s59_30 : mm_wp d 59 30 [l0, l1, .int x] st h Q ↔ mm_wp d 59 33 [l0, l1, .int (x + (1 : Int32))] st h Q := wp_iinc rfl rfl rfl rfl
theorem s59_33 : mm_wp d 59 33 ls st h Q ↔ mm_wp d 59 2 ls st h Q := wp_goto rfl rfl
theorem s59_36 : mm_wp d 59 36 ls st h Q ↔ mm_wp d 59 37 ls (.null :: st) h Q := wp_anull rfl
theorem s59_37 : mm_wp d 59 37 ls (.ref a :: st) h Q ↔ Q (.inl (some (.ref a))) h := wp_aret rfl rfl (some a)
theorem s59_37o : mm_wp d 59 37 ls (mm_o o :: st) h Q ↔ Q (.inl (some (mm_o o))) h := wp_aret rfl rfl o
end
end
