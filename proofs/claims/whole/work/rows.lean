section
-- ===== PART A: goes FIRST, ahead of the names: the tables' words, and 'selects' of the private methods out of them =====
/-- a private method of a class that the tables say can be made, by its rows of tables_1 -/
def lw_okq (q : MethodName × Nat) : Prop := (q.1.cls ≠ "java/lang/invoke/MethodHandle" ∧ q.1.cls ≠ "java/lang/invoke/VarHandle") ∧ Cond.instantiable q.1.cls q.2 ∈ tables_1 ∧ Cond.privateMethod q.1 ∈ tables_1 ∧ Cond.instanceMethod q.1 ∈ tables_1
theorem lw_p0 : lw_okq (⟨"java/lang/Throwable", "fillInStackTrace", "(I)Ljava/lang/Throwable;"⟩, 6) := ⟨⟨by decide +kernel, by decide +kernel⟩, List.mem_of_getElem? (i := 436) (by decide +kernel), List.mem_of_getElem? (i := 434) (by decide +kernel), List.mem_of_getElem? (i := 435) (by decide +kernel)⟩
theorem lw_p1 : lw_okq (⟨"LoadRoom$Piece", "counts", "(I)Z"⟩, 10) := ⟨⟨by decide +kernel, by decide +kernel⟩, List.mem_of_getElem? (i := 67) (by decide +kernel), List.mem_of_getElem? (i := 509) (by decide +kernel), List.mem_of_getElem? (i := 510) (by decide +kernel)⟩
theorem lw_p2 : lw_okq (⟨"LoadRoom$Piece", "allows", "(I)Z"⟩, 10) := ⟨⟨by decide +kernel, by decide +kernel⟩, List.mem_of_getElem? (i := 67) (by decide +kernel), List.mem_of_getElem? (i := 513) (by decide +kernel), List.mem_of_getElem? (i := 514) (by decide +kernel)⟩
theorem lw_p3 : lw_okq (⟨"LoadRoom$Piece", "looksAlike", "(II)Z"⟩, 10) := ⟨⟨by decide +kernel, by decide +kernel⟩, List.mem_of_getElem? (i := 67) (by decide +kernel), List.mem_of_getElem? (i := 517) (by decide +kernel), List.mem_of_getElem? (i := 518) (by decide +kernel)⟩
theorem lw_p4 : lw_okq (⟨"LoadRoom$Piece", "goesIn", "(I)Z"⟩, 10) := ⟨⟨by decide +kernel, by decide +kernel⟩, List.mem_of_getElem? (i := 67) (by decide +kernel), List.mem_of_getElem? (i := 533) (by decide +kernel), List.mem_of_getElem? (i := 534) (by decide +kernel)⟩
theorem lw_p5 : lw_okq (⟨"LoadRoom$Search", "layFloors", "(I)V"⟩, 11) := ⟨⟨by decide +kernel, by decide +kernel⟩, List.mem_of_getElem? (i := 123) (by decide +kernel), List.mem_of_getElem? (i := 611) (by decide +kernel), List.mem_of_getElem? (i := 612) (by decide +kernel)⟩
theorem lw_p6 : lw_okq (⟨"LoadRoom$Floor", "widen", "(LLoadRoom$Placed;)V"⟩, 6) := ⟨⟨by decide +kernel, by decide +kernel⟩, List.mem_of_getElem? (i := 256) (by decide +kernel), List.mem_of_getElem? (i := 632) (by decide +kernel), List.mem_of_getElem? (i := 633) (by decide +kernel)⟩
theorem lw_p7 : lw_okq (⟨"LoadRoom$Search", "tryFloors", "(LLoadRoom$Placed;)V"⟩, 11) := ⟨⟨by decide +kernel, by decide +kernel⟩, List.mem_of_getElem? (i := 123) (by decide +kernel), List.mem_of_getElem? (i := 649) (by decide +kernel), List.mem_of_getElem? (i := 650) (by decide +kernel)⟩
theorem lw_p8 : lw_okq (⟨"LoadRoom$Search", "tryPlaces", "(LLoadRoom$Placed;LLoadRoom$Floor;)V"⟩, 11) := ⟨⟨by decide +kernel, by decide +kernel⟩, List.mem_of_getElem? (i := 123) (by decide +kernel), List.mem_of_getElem? (i := 661) (by decide +kernel), List.mem_of_getElem? (i := 662) (by decide +kernel)⟩
theorem lw_p9 : lw_okq (⟨"LoadRoom$Row", "isRising", "(LLoadRoom$Placed;)Z"⟩, 4) := ⟨⟨by decide +kernel, by decide +kernel⟩, List.mem_of_getElem? (i := 129) (by decide +kernel), List.mem_of_getElem? (i := 682) (by decide +kernel), List.mem_of_getElem? (i := 683) (by decide +kernel)⟩
theorem lw_p10 : lw_okq (⟨"LoadRoom$Row", "letsStand", "(LLoadRoom$Placed;)Z"⟩, 4) := ⟨⟨by decide +kernel, by decide +kernel⟩, List.mem_of_getElem? (i := 129) (by decide +kernel), List.mem_of_getElem? (i := 690) (by decide +kernel), List.mem_of_getElem? (i := 691) (by decide +kernel)⟩
theorem lw_p11 : lw_okq (⟨"LoadRoom$Row", "hasRoom", "(LLoadRoom$Placed;)Z"⟩, 4) := ⟨⟨by decide +kernel, by decide +kernel⟩, List.mem_of_getElem? (i := 129) (by decide +kernel), List.mem_of_getElem? (i := 700) (by decide +kernel), List.mem_of_getElem? (i := 701) (by decide +kernel)⟩
theorem lw_p12 : lw_okq (⟨"LoadRoom$Row", "carries", "(LLoadRoom$Placed;)Z"⟩, 4) := ⟨⟨by decide +kernel, by decide +kernel⟩, List.mem_of_getElem? (i := 129) (by decide +kernel), List.mem_of_getElem? (i := 708) (by decide +kernel), List.mem_of_getElem? (i := 709) (by decide +kernel)⟩
theorem lw_p13 : lw_okq (⟨"LoadRoom$Row", "letsOut", "(LLoadRoom$Placed;)Z"⟩, 4) := ⟨⟨by decide +kernel, by decide +kernel⟩, List.mem_of_getElem? (i := 129) (by decide +kernel), List.mem_of_getElem? (i := 716) (by decide +kernel), List.mem_of_getElem? (i := 717) (by decide +kernel)⟩
theorem lw_p14 : lw_okq (⟨"LoadRoom$Search", "meet", "(LLoadRoom$Placed;)V"⟩, 11) := ⟨⟨by decide +kernel, by decide +kernel⟩, List.mem_of_getElem? (i := 123) (by decide +kernel), List.mem_of_getElem? (i := 724) (by decide +kernel), List.mem_of_getElem? (i := 725) (by decide +kernel)⟩
theorem lw_p15 : lw_okq (⟨"LoadRoom$Row", "reckon", "(LLoadRoom$Placed;I)V"⟩, 4) := ⟨⟨by decide +kernel, by decide +kernel⟩, List.mem_of_getElem? (i := 129) (by decide +kernel), List.mem_of_getElem? (i := 732) (by decide +kernel), List.mem_of_getElem? (i := 733) (by decide +kernel)⟩
def lw_privs_1 : List (MethodName × Nat) := [(⟨"java/lang/Throwable", "fillInStackTrace", "(I)Ljava/lang/Throwable;"⟩, 6), (⟨"LoadRoom$Piece", "counts", "(I)Z"⟩, 10), (⟨"LoadRoom$Piece", "allows", "(I)Z"⟩, 10), (⟨"LoadRoom$Piece", "looksAlike", "(II)Z"⟩, 10), (⟨"LoadRoom$Piece", "goesIn", "(I)Z"⟩, 10), (⟨"LoadRoom$Search", "layFloors", "(I)V"⟩, 11), (⟨"LoadRoom$Floor", "widen", "(LLoadRoom$Placed;)V"⟩, 6), (⟨"LoadRoom$Search", "tryFloors", "(LLoadRoom$Placed;)V"⟩, 11), (⟨"LoadRoom$Search", "tryPlaces", "(LLoadRoom$Placed;LLoadRoom$Floor;)V"⟩, 11), (⟨"LoadRoom$Row", "isRising", "(LLoadRoom$Placed;)Z"⟩, 4), (⟨"LoadRoom$Row", "letsStand", "(LLoadRoom$Placed;)Z"⟩, 4), (⟨"LoadRoom$Row", "hasRoom", "(LLoadRoom$Placed;)Z"⟩, 4), (⟨"LoadRoom$Row", "carries", "(LLoadRoom$Placed;)Z"⟩, 4), (⟨"LoadRoom$Row", "letsOut", "(LLoadRoom$Placed;)Z"⟩, 4), (⟨"LoadRoom$Search", "meet", "(LLoadRoom$Placed;)V"⟩, 11), (⟨"LoadRoom$Row", "reckon", "(LLoadRoom$Placed;I)V"⟩, 4)]
theorem lw_r1 : ∀ q ∈ lw_privs_1, lw_okq q := List.forall_mem_cons.mpr ⟨lw_p0, List.forall_mem_cons.mpr ⟨lw_p1, List.forall_mem_cons.mpr ⟨lw_p2, List.forall_mem_cons.mpr ⟨lw_p3, List.forall_mem_cons.mpr ⟨lw_p4, List.forall_mem_cons.mpr ⟨lw_p5, List.forall_mem_cons.mpr ⟨lw_p6, List.forall_mem_cons.mpr ⟨lw_p7, List.forall_mem_cons.mpr ⟨lw_p8, List.forall_mem_cons.mpr ⟨lw_p9, List.forall_mem_cons.mpr ⟨lw_p10, List.forall_mem_cons.mpr ⟨lw_p11, List.forall_mem_cons.mpr ⟨lw_p12, List.forall_mem_cons.mpr ⟨lw_p13, List.forall_mem_cons.mpr ⟨lw_p14, List.forall_mem_cons.mpr ⟨lw_p15, fun _ h => absurd h List.not_mem_nil⟩⟩⟩⟩⟩⟩⟩⟩⟩⟩⟩⟩⟩⟩⟩⟩
theorem lw_p16 : lw_okq (⟨"LoadRoom$Axles", "gap", "(I)I"⟩, 2) := ⟨⟨by decide +kernel, by decide +kernel⟩, List.mem_of_getElem? (i := 324) (by decide +kernel), List.mem_of_getElem? (i := 839) (by decide +kernel), List.mem_of_getElem? (i := 840) (by decide +kernel)⟩
theorem lw_p17 : lw_okq (⟨"LoadRoom$Axles", "sumFromBefore", "(ILLoadRoom$Row;)J"⟩, 2) := ⟨⟨by decide +kernel, by decide +kernel⟩, List.mem_of_getElem? (i := 324) (by decide +kernel), List.mem_of_getElem? (i := 844) (by decide +kernel), List.mem_of_getElem? (i := 845) (by decide +kernel)⟩
theorem lw_p18 : lw_okq (⟨"LoadRoom$Axles", "firstOfTwo", "(I)I"⟩, 2) := ⟨⟨by decide +kernel, by decide +kernel⟩, List.mem_of_getElem? (i := 324) (by decide +kernel), List.mem_of_getElem? (i := 848) (by decide +kernel), List.mem_of_getElem? (i := 849) (by decide +kernel)⟩
theorem lw_p19 : lw_okq (⟨"LoadRoom$Axles", "sumFromBehind", "(ILLoadRoom$Row;)J"⟩, 2) := ⟨⟨by decide +kernel, by decide +kernel⟩, List.mem_of_getElem? (i := 324) (by decide +kernel), List.mem_of_getElem? (i := 852) (by decide +kernel), List.mem_of_getElem? (i := 853) (by decide +kernel)⟩
theorem lw_p20 : lw_okq (⟨"LoadRoomModel", "unpack", "()V"⟩, 34) := ⟨⟨by decide +kernel, by decide +kernel⟩, List.mem_of_getElem? (i := 865) (by decide +kernel), List.mem_of_getElem? (i := 989) (by decide +kernel), List.mem_of_getElem? (i := 990) (by decide +kernel)⟩
theorem lw_p21 : lw_okq (⟨"LoadRoomModel", "isPiece", "(I)Z"⟩, 34) := ⟨⟨by decide +kernel, by decide +kernel⟩, List.mem_of_getElem? (i := 865) (by decide +kernel), List.mem_of_getElem? (i := 997) (by decide +kernel), List.mem_of_getElem? (i := 998) (by decide +kernel)⟩
theorem lw_p22 : lw_okq (⟨"LoadRoomModel", "fitting", "(I)I"⟩, 34) := ⟨⟨by decide +kernel, by decide +kernel⟩, List.mem_of_getElem? (i := 865) (by decide +kernel), List.mem_of_getElem? (i := 1013) (by decide +kernel), List.mem_of_getElem? (i := 1014) (by decide +kernel)⟩
theorem lw_p23 : lw_okq (⟨"LoadRoomModel", "turnFits", "(II)Z"⟩, 34) := ⟨⟨by decide +kernel, by decide +kernel⟩, List.mem_of_getElem? (i := 865) (by decide +kernel), List.mem_of_getElem? (i := 1017) (by decide +kernel), List.mem_of_getElem? (i := 1018) (by decide +kernel)⟩
theorem lw_p24 : lw_okq (⟨"LoadRoomModel", "isAllowed", "(II)Z"⟩, 34) := ⟨⟨by decide +kernel, by decide +kernel⟩, List.mem_of_getElem? (i := 865) (by decide +kernel), List.mem_of_getElem? (i := 1021) (by decide +kernel), List.mem_of_getElem? (i := 1022) (by decide +kernel)⟩
theorem lw_p25 : lw_okq (⟨"LoadRoomModel", "isLike", "(III)Z"⟩, 34) := ⟨⟨by decide +kernel, by decide +kernel⟩, List.mem_of_getElem? (i := 865) (by decide +kernel), List.mem_of_getElem? (i := 1025) (by decide +kernel), List.mem_of_getElem? (i := 1026) (by decide +kernel)⟩
theorem lw_p26 : lw_okq (⟨"LoadRoomModel", "volume", "(I)I"⟩, 34) := ⟨⟨by decide +kernel, by decide +kernel⟩, List.mem_of_getElem? (i := 865) (by decide +kernel), List.mem_of_getElem? (i := 1036) (by decide +kernel), List.mem_of_getElem? (i := 1037) (by decide +kernel)⟩
theorem lw_p27 : lw_okq (⟨"LoadRoomModel", "open", "()V"⟩, 34) := ⟨⟨by decide +kernel, by decide +kernel⟩, List.mem_of_getElem? (i := 865) (by decide +kernel), List.mem_of_getElem? (i := 1044) (by decide +kernel), List.mem_of_getElem? (i := 1045) (by decide +kernel)⟩
theorem lw_p28 : lw_okq (⟨"LoadRoomModel", "findNext", "()Z"⟩, 34) := ⟨⟨by decide +kernel, by decide +kernel⟩, List.mem_of_getElem? (i := 865) (by decide +kernel), List.mem_of_getElem? (i := 1048) (by decide +kernel), List.mem_of_getElem? (i := 1049) (by decide +kernel)⟩
theorem lw_p29 : lw_okq (⟨"LoadRoomModel", "cornerX", "(I)I"⟩, 34) := ⟨⟨by decide +kernel, by decide +kernel⟩, List.mem_of_getElem? (i := 865) (by decide +kernel), List.mem_of_getElem? (i := 1052) (by decide +kernel), List.mem_of_getElem? (i := 1053) (by decide +kernel)⟩
theorem lw_p30 : lw_okq (⟨"LoadRoomModel", "cornerY", "(I)I"⟩, 34) := ⟨⟨by decide +kernel, by decide +kernel⟩, List.mem_of_getElem? (i := 865) (by decide +kernel), List.mem_of_getElem? (i := 1056) (by decide +kernel), List.mem_of_getElem? (i := 1057) (by decide +kernel)⟩
theorem lw_p31 : lw_okq (⟨"LoadRoomModel", "cornerZ", "(I)I"⟩, 34) := ⟨⟨by decide +kernel, by decide +kernel⟩, List.mem_of_getElem? (i := 865) (by decide +kernel), List.mem_of_getElem? (i := 1060) (by decide +kernel), List.mem_of_getElem? (i := 1061) (by decide +kernel)⟩
def lw_privs_2 : List (MethodName × Nat) := [(⟨"LoadRoom$Axles", "gap", "(I)I"⟩, 2), (⟨"LoadRoom$Axles", "sumFromBefore", "(ILLoadRoom$Row;)J"⟩, 2), (⟨"LoadRoom$Axles", "firstOfTwo", "(I)I"⟩, 2), (⟨"LoadRoom$Axles", "sumFromBehind", "(ILLoadRoom$Row;)J"⟩, 2), (⟨"LoadRoomModel", "unpack", "()V"⟩, 34), (⟨"LoadRoomModel", "isPiece", "(I)Z"⟩, 34), (⟨"LoadRoomModel", "fitting", "(I)I"⟩, 34), (⟨"LoadRoomModel", "turnFits", "(II)Z"⟩, 34), (⟨"LoadRoomModel", "isAllowed", "(II)Z"⟩, 34), (⟨"LoadRoomModel", "isLike", "(III)Z"⟩, 34), (⟨"LoadRoomModel", "volume", "(I)I"⟩, 34), (⟨"LoadRoomModel", "open", "()V"⟩, 34), (⟨"LoadRoomModel", "findNext", "()Z"⟩, 34), (⟨"LoadRoomModel", "cornerX", "(I)I"⟩, 34), (⟨"LoadRoomModel", "cornerY", "(I)I"⟩, 34), (⟨"LoadRoomModel", "cornerZ", "(I)I"⟩, 34)]
theorem lw_r2 : ∀ q ∈ lw_privs_2, lw_okq q := List.forall_mem_cons.mpr ⟨lw_p16, List.forall_mem_cons.mpr ⟨lw_p17, List.forall_mem_cons.mpr ⟨lw_p18, List.forall_mem_cons.mpr ⟨lw_p19, List.forall_mem_cons.mpr ⟨lw_p20, List.forall_mem_cons.mpr ⟨lw_p21, List.forall_mem_cons.mpr ⟨lw_p22, List.forall_mem_cons.mpr ⟨lw_p23, List.forall_mem_cons.mpr ⟨lw_p24, List.forall_mem_cons.mpr ⟨lw_p25, List.forall_mem_cons.mpr ⟨lw_p26, List.forall_mem_cons.mpr ⟨lw_p27, List.forall_mem_cons.mpr ⟨lw_p28, List.forall_mem_cons.mpr ⟨lw_p29, List.forall_mem_cons.mpr ⟨lw_p30, List.forall_mem_cons.mpr ⟨lw_p31, fun _ h => absurd h List.not_mem_nil⟩⟩⟩⟩⟩⟩⟩⟩⟩⟩⟩⟩⟩⟩⟩⟩
theorem lw_p32 : lw_okq (⟨"LoadRoomModel", "mayCome", "(IIII)Z"⟩, 34) := ⟨⟨by decide +kernel, by decide +kernel⟩, List.mem_of_getElem? (i := 865) (by decide +kernel), List.mem_of_getElem? (i := 1064) (by decide +kernel), List.mem_of_getElem? (i := 1065) (by decide +kernel)⟩
theorem lw_p33 : lw_okq (⟨"LoadRoomModel", "rises", "(III)Z"⟩, 34) := ⟨⟨by decide +kernel, by decide +kernel⟩, List.mem_of_getElem? (i := 865) (by decide +kernel), List.mem_of_getElem? (i := 1068) (by decide +kernel), List.mem_of_getElem? (i := 1069) (by decide +kernel)⟩
theorem lw_p34 : lw_okq (⟨"LoadRoomModel", "common", "(IIII)I"⟩, 34) := ⟨⟨by decide +kernel, by decide +kernel⟩, List.mem_of_getElem? (i := 865) (by decide +kernel), List.mem_of_getElem? (i := 1072) (by decide +kernel), List.mem_of_getElem? (i := 1073) (by decide +kernel)⟩
theorem lw_p35 : lw_okq (⟨"LoadRoomModel", "come", "(IIIII)V"⟩, 34) := ⟨⟨by decide +kernel, by decide +kernel⟩, List.mem_of_getElem? (i := 865) (by decide +kernel), List.mem_of_getElem? (i := 1076) (by decide +kernel), List.mem_of_getElem? (i := 1077) (by decide +kernel)⟩
theorem lw_p36 : lw_okq (⟨"LoadRoomModel", "compare", "()V"⟩, 34) := ⟨⟨by decide +kernel, by decide +kernel⟩, List.mem_of_getElem? (i := 865) (by decide +kernel), List.mem_of_getElem? (i := 1080) (by decide +kernel), List.mem_of_getElem? (i := 1081) (by decide +kernel)⟩
theorem lw_p37 : lw_okq (⟨"LoadRoomModel", "leave", "()V"⟩, 34) := ⟨⟨by decide +kernel, by decide +kernel⟩, List.mem_of_getElem? (i := 865) (by decide +kernel), List.mem_of_getElem? (i := 1084) (by decide +kernel), List.mem_of_getElem? (i := 1085) (by decide +kernel)⟩
theorem lw_p38 : lw_okq (⟨"LoadRoomModel", "placeOf", "(I)I"⟩, 34) := ⟨⟨by decide +kernel, by decide +kernel⟩, List.mem_of_getElem? (i := 865) (by decide +kernel), List.mem_of_getElem? (i := 1100) (by decide +kernel), List.mem_of_getElem? (i := 1101) (by decide +kernel)⟩
theorem lw_p39 : lw_okq (⟨"LoadRoomModel", "gapOf", "(I)I"⟩, 34) := ⟨⟨by decide +kernel, by decide +kernel⟩, List.mem_of_getElem? (i := 865) (by decide +kernel), List.mem_of_getElem? (i := 1123) (by decide +kernel), List.mem_of_getElem? (i := 1124) (by decide +kernel)⟩
def lw_privs_3 : List (MethodName × Nat) := [(⟨"LoadRoomModel", "mayCome", "(IIII)Z"⟩, 34), (⟨"LoadRoomModel", "rises", "(III)Z"⟩, 34), (⟨"LoadRoomModel", "common", "(IIII)I"⟩, 34), (⟨"LoadRoomModel", "come", "(IIIII)V"⟩, 34), (⟨"LoadRoomModel", "compare", "()V"⟩, 34), (⟨"LoadRoomModel", "leave", "()V"⟩, 34), (⟨"LoadRoomModel", "placeOf", "(I)I"⟩, 34), (⟨"LoadRoomModel", "gapOf", "(I)I"⟩, 34)]
theorem lw_r3 : ∀ q ∈ lw_privs_3, lw_okq q := List.forall_mem_cons.mpr ⟨lw_p32, List.forall_mem_cons.mpr ⟨lw_p33, List.forall_mem_cons.mpr ⟨lw_p34, List.forall_mem_cons.mpr ⟨lw_p35, List.forall_mem_cons.mpr ⟨lw_p36, List.forall_mem_cons.mpr ⟨lw_p37, List.forall_mem_cons.mpr ⟨lw_p38, List.forall_mem_cons.mpr ⟨lw_p39, fun _ h => absurd h List.not_mem_nil⟩⟩⟩⟩⟩⟩⟩⟩
def lw_privs : List (MethodName × Nat) := lw_privs_1 ++ (lw_privs_2 ++ (lw_privs_3))
def lw_tbl : List Cond := k2_sels lw_privs ++ tables_1
theorem lw_privs_ok : ∀ q ∈ lw_privs, lw_okq q := by
  show ∀ q ∈ lw_privs_1 ++ (lw_privs_2 ++ (lw_privs_3)), lw_okq q
  exact List.forall_mem_append.mpr ⟨lw_r1, List.forall_mem_append.mpr ⟨lw_r2, lw_r3⟩⟩
end
section
/-! TABLES of the landed program, by gen.py: class names, fields, methods, instructions, links (with each word's place in lw_tbl) -/
def tb_own : List String := ["LoadRoom$Axles", "LoadRoom$Box", "LoadRoom$Cargo", "LoadRoom$Ends", "LoadRoom$Floor", "LoadRoom$Piece", "LoadRoom$Placed", "LoadRoom$Row", "LoadRoom$Search", "LoadRoom", "LoadRoomModel", "LoadRoomLaw", "java/lang/Math"]
def tb_F0 : List (String × String × String × Bool) := [("LoadRoom$Axles", "places", "[I", true), ("LoadRoom$Axles", "count", "I", false)]
def tb_F1 : List (String × String × String × Bool) := [("LoadRoom$Box", "width", "I", true), ("LoadRoom$Box", "height", "I", true), ("LoadRoom$Box", "depth", "I", true)]
def tb_F2 : List (String × String × String × Bool) := [("LoadRoom$Cargo", "pieces", "[LLoadRoom$Piece;", true), ("LoadRoom$Cargo", "count", "I", false)]
def tb_F3 : List (String × String × String × Bool) := [("LoadRoom$Ends", "sorted", "[[I", true), ("LoadRoom$Ends", "counts", "[I", true)]
def tb_F4 : List (String × String × String × Bool) := [("LoadRoom$Floor", "y", "I", false), ("LoadRoom$Floor", "area", "I", false), ("LoadRoom$Floor", "left", "I", false), ("LoadRoom$Floor", "right", "I", false), ("LoadRoom$Floor", "back", "I", false), ("LoadRoom$Floor", "front", "I", false)]
def tb_F5 : List (String × String × String × Bool) := [("LoadRoom$Piece", "box", "LLoadRoom$Box;", true), ("LoadRoom$Piece", "isGood", "[Z", true), ("LoadRoom$Piece", "goodTurns", "I", false), ("LoadRoom$Piece", "width", "I", false), ("LoadRoom$Piece", "height", "I", false), ("LoadRoom$Piece", "depth", "I", false), ("LoadRoom$Piece", "weight", "I", false), ("LoadRoom$Piece", "marks", "I", false), ("LoadRoom$Piece", "stop", "I", false), ("LoadRoom$Piece", "limit", "I", false)]
def tb_F6 : List (String × String × String × Bool) := [("LoadRoom$Placed", "number", "I", true), ("LoadRoom$Placed", "piece", "I", false), ("LoadRoom$Placed", "turn", "I", false), ("LoadRoom$Placed", "x", "I", false), ("LoadRoom$Placed", "y", "I", false), ("LoadRoom$Placed", "z", "I", false), ("LoadRoom$Placed", "right", "I", false), ("LoadRoom$Placed", "top", "I", false), ("LoadRoom$Placed", "front", "I", false), ("LoadRoom$Placed", "width", "I", false), ("LoadRoom$Placed", "height", "I", false), ("LoadRoom$Placed", "depth", "I", false), ("LoadRoom$Placed", "weight", "I", false), ("LoadRoom$Placed", "stop", "I", false), ("LoadRoom$Placed", "limit", "I", false), ("LoadRoom$Placed", "bears", "I", false)]
def tb_F7 : List (String × String × String × Bool) := [("LoadRoom$Row", "slots", "[LLoadRoom$Placed;", true), ("LoadRoom$Row", "length", "I", false), ("LoadRoom$Row", "volume", "I", false), ("LoadRoom$Row", "moment", "J", false)]
def tb_F8 : List (String × String × String × Bool) := [("LoadRoom$Search", "box", "LLoadRoom$Box;", true), ("LoadRoom$Search", "cargo", "LLoadRoom$Cargo;", true), ("LoadRoom$Search", "row", "LLoadRoom$Row;", true), ("LoadRoom$Search", "best", "LLoadRoom$Row;", true), ("LoadRoom$Search", "rights", "LLoadRoom$Ends;", true), ("LoadRoom$Search", "tops", "LLoadRoom$Ends;", true), ("LoadRoom$Search", "fronts", "LLoadRoom$Ends;", true), ("LoadRoom$Search", "floors", "[LLoadRoom$Floor;", true), ("LoadRoom$Search", "told", "I", false), ("LoadRoom$Search", "made", "I", false), ("LoadRoom$Search", "spent", "Z", false)]
def tb_F9 : List (String × String × String × Bool) := [("LoadRoom", "box", "LLoadRoom$Box;", true), ("LoadRoom", "cargo", "LLoadRoom$Cargo;", true), ("LoadRoom", "search", "LLoadRoom$Search;", true), ("LoadRoom", "axles", "LLoadRoom$Axles;", true)]
def tb_F10 : List (String × String × String × Bool) := [("LoadRoomModel", "thrown", "I", false), ("LoadRoomModel", "box", "[I", true), ("LoadRoomModel", "pieces", "I", false), ("LoadRoomModel", "sizes", "[I", true), ("LoadRoomModel", "weights", "[I", true), ("LoadRoomModel", "marks", "[I", true), ("LoadRoomModel", "stops", "[I", true), ("LoadRoomModel", "limits", "[I", true), ("LoadRoomModel", "many", "I", false), ("LoadRoomModel", "row", "[I", true), ("LoadRoomModel", "turns", "[I", true), ("LoadRoomModel", "spans", "[I", true), ("LoadRoomModel", "places", "[I", true), ("LoadRoomModel", "bears", "[I", true), ("LoadRoomModel", "isIn", "[Z", true), ("LoadRoomModel", "nextPiece", "[I", true), ("LoadRoomModel", "nextTurn", "[I", true), ("LoadRoomModel", "nextCorner", "[I", true), ("LoadRoomModel", "corners", "[I", true), ("LoadRoomModel", "cornerCounts", "[I", true), ("LoadRoomModel", "isPacked", "Z", false), ("LoadRoomModel", "isSpent", "Z", false), ("LoadRoomModel", "steps", "I", false), ("LoadRoomModel", "bestMany", "I", false), ("LoadRoomModel", "bestVolume", "J", false), ("LoadRoomModel", "bestMoment", "J", false), ("LoadRoomModel", "bestRow", "[I", true), ("LoadRoomModel", "bestTurns", "[I", true), ("LoadRoomModel", "bestSpans", "[I", true), ("LoadRoomModel", "bestPlaces", "[I", true), ("LoadRoomModel", "bestBears", "[I", true), ("LoadRoomModel", "axles", "I", false), ("LoadRoomModel", "axlePlaces", "[I", true), ("LoadRoomModel", "turned", "[I", true)]
def tb_F : List (List (String × String × String × Bool)) := [tb_F0, tb_F1, tb_F2, tb_F3, tb_F4, tb_F5, tb_F6, tb_F7, tb_F8, tb_F9, tb_F10]
def tb_u (k : Nat) : u_T := fun j => (tb_F.getD k []).getD j ("", "", "", false)
abbrev tb_cl : List vw_C := [("LoadRoom$Axles", tb_u 0, 2), ("LoadRoom$Box", tb_u 1, 3), ("LoadRoom$Cargo", tb_u 2, 2), ("LoadRoom$Ends", tb_u 3, 2), ("LoadRoom$Floor", tb_u 4, 6), ("LoadRoom$Piece", tb_u 5, 10), ("LoadRoom$Placed", tb_u 6, 16), ("LoadRoom$Row", tb_u 7, 4), ("LoadRoom$Search", tb_u 8, 11), ("LoadRoom", tb_u 9, 4), ("LoadRoomModel", tb_u 10, 34)]
/-- the number of a class's fields; the type of a field: 0 int, 1 long, 2 reference, 3 boolean -/
def tb_ty : List (List Nat) := [[2, 0], [0, 0, 0], [2, 0], [2, 2], [0, 0, 0, 0, 0, 0], [2, 2, 0, 0, 0, 0, 0, 0, 0, 0], [0, 0, 0, 0, 0, 0, 0, 0, 0, 0, 0, 0, 0, 0, 0, 0], [2, 0, 0, 1], [2, 2, 2, 2, 2, 2, 2, 2, 0, 0, 3], [2, 2, 2, 2], [0, 2, 0, 2, 2, 2, 2, 2, 0, 2, 2, 2, 2, 2, 2, 2, 2, 2, 2, 2, 3, 3, 0, 0, 1, 1, 2, 2, 2, 2, 2, 0, 2, 2]]
/-- a method: its class's number, name, descriptor, variables, what it returns (0 nothing, 1 int, 2 long, 3 boolean, 4 reference), arguments (with the receiver), static -/
def tb_met : List (Nat × String × String × Nat × Nat × Nat × Bool) := [(11, "law", "([I)Z", 8, 3, 1, true),
  (9, "<init>", "(III)V", 4, 0, 4, false),
  (9, "nearestLength", "(I)I", 1, 1, 1, true),
  (12, "min", "(II)I", 2, 1, 2, true),
  (12, "max", "(II)I", 2, 1, 2, true),
  (1, "<init>", "(III)V", 4, 0, 4, false),
  (2, "<init>", "(LLoadRoom$Box;)V", 3, 0, 2, false),
  (5, "<init>", "(LLoadRoom$Box;)V", 2, 0, 2, false),
  (8, "<init>", "(LLoadRoom$Box;LLoadRoom$Cargo;)V", 4, 0, 3, false),
  (7, "<init>", "()V", 2, 0, 1, false),
  (6, "<init>", "(I)V", 2, 0, 2, false),
  (3, "<init>", "()V", 1, 0, 1, false),
  (4, "<init>", "()V", 1, 0, 1, false),
  (0, "<init>", "()V", 1, 0, 1, false),
  (9, "exact", "()Z", 1, 3, 1, false),
  (9, "steps", "()I", 1, 1, 1, false),
  (9, "bound", "()I", 1, 1, 1, false),
  (1, "volume", "()I", 1, 1, 1, false),
  (2, "volume", "()I", 3, 1, 1, false),
  (5, "volume", "()I", 1, 1, 1, false),
  (9, "moment", "()J", 1, 2, 1, false),
  (11, "cell", "([II)I", 2, 1, 2, true),
  (11, "piece", "(LLoadRoom;IIII[J)I", 7, 1, 6, true),
  (9, "piece", "(IIII)I", 5, 1, 5, false),
  (9, "isLength", "(I)Z", 1, 3, 1, true),
  (9, "isWithin", "(III)Z", 3, 3, 3, true),
  (2, "isFull", "()Z", 1, 3, 1, false),
  (8, "forget", "()V", 1, 0, 1, false),
  (7, "clear", "()V", 1, 0, 1, false),
  (2, "add", "(IIII)I", 5, 1, 5, false),
  (5, "become", "(IIII)V", 5, 0, 5, false),
  (5, "mark", "(I)V", 3, 0, 2, false),
  (5, "counts", "(I)Z", 3, 3, 2, false),
  (5, "allows", "(I)Z", 2, 3, 2, false),
  (5, "looksAlike", "(II)Z", 3, 3, 3, false),
  (5, "widthIn", "(I)I", 2, 1, 2, false),
  (5, "heightIn", "(I)I", 2, 1, 2, false),
  (5, "depthIn", "(I)I", 2, 1, 2, false),
  (5, "goesIn", "(I)Z", 2, 3, 2, false),
  (11, "turn", "(LLoadRoom;II[J)I", 5, 1, 4, true),
  (9, "turn", "(II)I", 5, 1, 3, false),
  (2, "get", "(I)LLoadRoom$Piece;", 2, 4, 2, false),
  (2, "demand", "(I)V", 2, 0, 2, false),
  (11, "order", "(LLoadRoom;II[J)I", 5, 1, 4, true),
  (9, "order", "(II)I", 5, 1, 3, false),
  (11, "limit", "(LLoadRoom;II[J)I", 5, 1, 4, true),
  (9, "limit", "(II)I", 5, 1, 3, false),
  (11, "fits", "(LLoadRoom;I[J)I", 4, 1, 3, true),
  (9, "fits", "(I)I", 2, 1, 2, false),
  (11, "pack", "(LLoadRoom;I[J)I", 4, 1, 3, true),
  (9, "pack", "(I)I", 2, 1, 2, false),
  (8, "start", "(I)V", 2, 0, 2, false),
  (8, "goBehind", "(I)V", 7, 0, 2, false),
  (8, "layFloors", "(I)V", 3, 0, 2, false),
  (4, "lay", "(LLoadRoom$Box;)V", 2, 0, 2, false),
  (3, "count", "(I)I", 2, 1, 2, false),
  (3, "get", "(II)I", 3, 1, 3, false),
  (4, "lay", "(ILLoadRoom$Row;)V", 4, 0, 3, false),
  (4, "widen", "(LLoadRoom$Placed;)V", 3, 0, 2, false),
  (7, "find", "(I)LLoadRoom$Placed;", 3, 4, 2, false),
  (6, "take", "(ILLoadRoom$Piece;I)V", 4, 0, 4, false),
  (8, "tryFloors", "(LLoadRoom$Placed;)V", 5, 0, 2, false),
  (6, "moveToY", "(I)V", 2, 0, 2, false),
  (7, "leastHeight", "()I", 1, 1, 1, false),
  (8, "tryPlaces", "(LLoadRoom$Placed;LLoadRoom$Floor;)V", 7, 0, 3, false),
  (7, "leastDepth", "(I)I", 2, 1, 2, false),
  (6, "moveToZ", "(I)V", 2, 0, 2, false),
  (6, "moveToX", "(I)V", 2, 0, 2, false),
  (7, "admits", "(LLoadRoom$Placed;)Z", 2, 3, 2, false),
  (7, "isRising", "(LLoadRoom$Placed;)Z", 2, 3, 2, false),
  (6, "isPast", "(LLoadRoom$Placed;)Z", 2, 3, 2, false),
  (7, "letsStand", "(LLoadRoom$Placed;)Z", 4, 3, 2, false),
  (6, "restsOn", "(LLoadRoom$Placed;)I", 4, 1, 2, false),
  (7, "hasRoom", "(LLoadRoom$Placed;)Z", 3, 3, 2, false),
  (6, "sharesRoom", "(LLoadRoom$Placed;)Z", 2, 3, 2, false),
  (7, "carries", "(LLoadRoom$Placed;)Z", 4, 3, 2, false),
  (6, "isOver", "(LLoadRoom$Placed;)Z", 2, 3, 2, false),
  (7, "letsOut", "(LLoadRoom$Placed;)Z", 3, 3, 2, false),
  (6, "shutsIn", "(LLoadRoom$Placed;)Z", 2, 3, 2, false),
  (8, "meet", "(LLoadRoom$Placed;)V", 2, 0, 2, false),
  (7, "lengthen", "()V", 1, 0, 1, false),
  (7, "reckon", "(LLoadRoom$Placed;I)V", 4, 0, 3, false),
  (3, "grow", "(II)V", 9, 0, 3, false),
  (7, "isBetterThan", "(LLoadRoom$Row;)Z", 2, 3, 2, false),
  (7, "copy", "(LLoadRoom$Row;)V", 3, 0, 2, false),
  (6, "copy", "(LLoadRoom$Placed;)V", 2, 0, 2, false),
  (7, "shorten", "()V", 1, 0, 1, false),
  (11, "at", "(LLoadRoom;II[J)I", 5, 1, 4, true),
  (9, "at", "(II)I", 4, 1, 3, false),
  (6, "tell", "(I)I", 2, 1, 2, false),
  (11, "touch", "(LLoadRoom;II[J)I", 5, 1, 4, true),
  (9, "touch", "(II)I", 5, 1, 3, false),
  (11, "axle", "(LLoadRoom;I[J)I", 4, 1, 3, true),
  (9, "axle", "(I)I", 2, 1, 2, false),
  (0, "lastPlace", "()I", 1, 1, 1, false),
  (0, "isFull", "()Z", 1, 3, 1, false),
  (0, "add", "(I)I", 2, 1, 2, false),
  (11, "load", "(LLoadRoom;II[J)I", 5, 1, 4, true),
  (9, "load", "(II)J", 3, 2, 3, false),
  (0, "has", "(I)Z", 2, 3, 2, false),
  (0, "share", "(IILLoadRoom$Row;)J", 10, 2, 4, false),
  (0, "gap", "(I)I", 2, 1, 2, false),
  (0, "sumFromBefore", "(ILLoadRoom$Row;)J", 8, 2, 3, false),
  (0, "firstOfTwo", "(I)I", 4, 1, 2, false),
  (0, "sumFromBehind", "(ILLoadRoom$Row;)J", 8, 2, 3, false),
  (0, "inLowestTerms", "(JJI)J", 9, 2, 3, true),
  (12, "abs", "(J)J", 2, 2, 1, true),
  (0, "commonDivisor", "(JJ)J", 11, 2, 2, true),
  (10, "<init>", "(III)V", 4, 0, 4, false),
  (10, "brought", "(I)I", 1, 1, 1, true),
  (10, "thrown", "()I", 1, 1, 1, false),
  (10, "piece", "(IIII)I", 6, 1, 5, false),
  (10, "within", "(III)Z", 3, 3, 3, true),
  (10, "unpack", "()V", 1, 0, 1, false),
  (10, "turn", "(II)I", 4, 1, 3, false),
  (10, "isPiece", "(I)Z", 2, 3, 2, false),
  (10, "order", "(II)I", 4, 1, 3, false),
  (10, "limit", "(II)I", 4, 1, 3, false),
  (10, "fits", "(I)I", 2, 1, 2, false),
  (10, "fitting", "(I)I", 4, 1, 2, false),
  (10, "turnFits", "(II)Z", 5, 3, 3, false),
  (10, "isAllowed", "(II)Z", 3, 3, 3, false),
  (10, "isLike", "(III)Z", 6, 3, 4, false),
  (10, "axisOf", "(II)I", 2, 1, 2, true),
  (10, "bound", "()I", 3, 1, 1, false),
  (10, "volume", "(I)I", 2, 1, 2, false),
  (10, "pack", "(I)I", 4, 1, 2, false),
  (10, "open", "()V", 8, 0, 1, false),
  (10, "findNext", "()Z", 7, 3, 1, false),
  (10, "cornerX", "(I)I", 2, 1, 2, false),
  (10, "cornerY", "(I)I", 2, 1, 2, false),
  (10, "cornerZ", "(I)I", 2, 1, 2, false),
  (10, "mayCome", "(IIII)Z", 15, 3, 5, false),
  (10, "rises", "(III)Z", 5, 3, 4, false),
  (10, "common", "(IIII)I", 9, 1, 5, false),
  (10, "come", "(IIIII)V", 8, 0, 6, false),
  (10, "compare", "()V", 6, 0, 1, false),
  (10, "leave", "()V", 4, 0, 1, false),
  (10, "exact", "()Z", 1, 3, 1, false),
  (10, "steps", "()I", 1, 1, 1, false),
  (10, "at", "(II)I", 4, 1, 3, false),
  (10, "placeOf", "(I)I", 3, 1, 2, false),
  (10, "moment", "()J", 1, 2, 1, false),
  (10, "touch", "(II)I", 6, 1, 3, false),
  (10, "overlap", "(IIII)I", 6, 1, 4, true),
  (10, "axle", "(I)I", 3, 1, 2, false),
  (10, "load", "(II)J", 17, 2, 3, false),
  (10, "gapOf", "(I)I", 3, 1, 2, false),
  (10, "divisor", "(JJ)J", 10, 2, 2, true)]
def tb_byt : List ByteArray := [code, prog_1_method_1_code, prog_1_method_18_code, prog_18_method_69_code, prog_18_method_65_code, prog_3_method_1_code, prog_4_method_1_code, prog_7_method_1_code, prog_10_method_1_code, prog_9_method_1_code, prog_8_method_1_code, prog_5_method_1_code, prog_6_method_1_code, prog_2_method_1_code, prog_1_method_8_code, prog_1_method_9_code, prog_1_method_10_code, prog_3_method_2_code, prog_4_method_6_code, prog_7_method_4_code, prog_1_method_12_code, method_2_code, method_3_code, prog_1_method_2_code, prog_1_method_17_code, prog_1_method_16_code, prog_4_method_2_code, prog_10_method_2_code, prog_9_method_2_code, prog_4_method_3_code, prog_7_method_2_code, prog_7_method_3_code, prog_7_method_10_code, prog_7_method_8_code, prog_7_method_9_code, prog_7_method_5_code, prog_7_method_6_code, prog_7_method_7_code, prog_7_method_11_code, method_4_code, prog_1_method_3_code, prog_4_method_5_code, prog_4_method_4_code, method_5_code, prog_1_method_4_code, method_6_code, prog_1_method_5_code, method_7_code, prog_1_method_6_code, method_8_code, prog_1_method_7_code, prog_10_method_3_code, prog_10_method_4_code, prog_10_method_5_code, prog_6_method_2_code, prog_5_method_2_code, prog_5_method_3_code, prog_6_method_3_code, prog_6_method_4_code, prog_9_method_4_code, prog_8_method_2_code, prog_10_method_6_code, prog_8_method_5_code, prog_9_method_6_code, prog_10_method_7_code, prog_9_method_7_code, prog_8_method_6_code, prog_8_method_4_code, prog_9_method_8_code, prog_9_method_9_code, prog_8_method_7_code, prog_9_method_11_code, prog_8_method_11_code, prog_9_method_10_code, prog_8_method_8_code, prog_9_method_12_code, prog_8_method_9_code, prog_9_method_13_code, prog_8_method_10_code, prog_10_method_8_code, prog_9_method_14_code, prog_9_method_16_code, prog_5_method_4_code, prog_9_method_5_code, prog_9_method_3_code, prog_8_method_3_code, prog_9_method_15_code, method_9_code, prog_1_method_11_code, prog_8_method_12_code, method_10_code, prog_1_method_13_code, method_11_code, prog_1_method_14_code, prog_2_method_4_code, prog_2_method_2_code, prog_2_method_5_code, method_12_code, prog_1_method_15_code, prog_2_method_3_code, prog_2_method_6_code, prog_2_method_7_code, prog_2_method_9_code, prog_2_method_8_code, prog_2_method_10_code, prog_2_method_11_code, prog_18_method_61_code, prog_2_method_12_code, prog_12_method_1_code, prog_12_method_2_code, prog_12_method_3_code, prog_12_method_7_code, prog_12_method_4_code, prog_12_method_6_code, prog_12_method_8_code, prog_12_method_5_code, prog_12_method_9_code, prog_12_method_10_code, prog_12_method_16_code, prog_12_method_15_code, prog_12_method_14_code, prog_12_method_12_code, prog_12_method_13_code, prog_12_method_11_code, prog_12_method_18_code, prog_12_method_17_code, prog_12_method_30_code, prog_12_method_19_code, prog_12_method_29_code, prog_12_method_26_code, prog_12_method_28_code, prog_12_method_27_code, prog_12_method_22_code, prog_12_method_21_code, prog_12_method_20_code, prog_12_method_23_code, prog_12_method_25_code, prog_12_method_24_code, prog_12_method_31_code, prog_12_method_32_code, prog_12_method_34_code, prog_12_method_33_code, prog_12_method_35_code, prog_12_method_37_code, prog_12_method_36_code, prog_12_method_38_code, prog_12_method_41_code, prog_12_method_39_code, prog_12_method_40_code]
/-- handlers: from, to, target, the kind that is caught, its entry -/
def tb_han : List (List (Nat × Nat × Nat × Nat × Nat)) := [[], [], [], [], [], [], [], [], [], [], [], [], [], [], [], [], [], [], [], [], [], [], [(0, 14, 17, 30, 13), (0, 14, 21, 31, 15)], [], [], [], [], [], [], [], [], [], [], [], [], [], [], [], [], [(0, 10, 13, 32, 21), (0, 10, 17, 30, 13)], [], [], [], [(0, 10, 13, 32, 21), (0, 10, 17, 30, 13)], [], [(0, 10, 13, 32, 21), (0, 10, 17, 30, 13)], [], [(0, 9, 12, 32, 21)], [], [(0, 9, 12, 30, 13)], [], [], [], [], [], [], [], [], [], [], [], [], [], [], [], [], [], [], [], [], [], [], [], [], [], [], [], [], [], [], [], [], [], [], [], [], [], [(0, 10, 13, 32, 21), (0, 10, 17, 30, 13)], [], [], [(0, 10, 13, 32, 21)], [], [(0, 9, 12, 30, 13), (0, 9, 15, 31, 15)], [], [], [], [], [(0, 9, 12, 33, 49), (0, 9, 16, 32, 21), (0, 9, 20, 30, 13)], [], [], [], [], [], [], [], [], [], [], [], [], [], [], [], [], [], [], [], [], [], [], [], [], [], [], [], [], [], [], [], [], [], [], [], [], [], [], [], [], [], [], [], [], [], [], [], [], [], [], []]
/-- the variables that hold longs -/
def tb_lng : List (List Nat) := [[6], [], [], [], [], [], [], [], [], [], [], [], [], [], [], [], [], [], [], [], [], [], [], [], [], [], [], [], [], [], [], [], [], [], [], [], [], [], [], [], [], [], [], [], [], [], [], [], [], [], [], [], [], [], [], [], [], [], [], [], [], [], [], [], [], [], [], [], [], [], [], [], [], [], [], [], [], [], [], [], [], [], [], [], [], [], [], [], [], [], [], [], [], [], [], [], [], [], [], [], [4, 6, 8], [], [3], [], [3], [0, 2, 5, 7], [0], [0, 2, 4, 6, 9], [], [], [], [], [], [], [], [], [], [], [], [], [], [], [], [], [], [], [], [], [], [], [], [], [], [], [], [], [1, 3], [], [], [], [], [], [], [], [], [], [3, 5, 7, 9, 11, 13, 15], [], [0, 2, 4, 6, 8]]
def tb_c0 : List (List (Nat × ClassFile.Instr × Nat)) := [[(0, .new 8, 3), (3, .dup, 1), (4, .aload_n 0, 1), (5, .iconst 0, 1), (6, .invokestatic 51, 3), (9, .aload_n 0, 1), (10, .iconst 1, 1), (11, .invokestatic 51, 3), (14, .aload_n 0, 1), (15, .iconst 2, 1), (16, .invokestatic 51, 3), (19, .invokespecial 57, 3), (22, .astore_n 1, 1), (23, .new 60, 3), (26, .dup, 1), (27, .aload_n 0, 1), (28, .iconst 0, 1), (29, .invokestatic 51, 3), (32, .aload_n 0, 1), (33, .iconst 1, 1), (34, .invokestatic 51, 3), (37, .aload_n 0, 1), (38, .iconst 2, 1), (39, .invokestatic 51, 3), (42, .invokespecial 62, 3), (45, .astore_n 2, 1), (46, .iconst 1, 1), (47, .newarray .long, 2), (49, .astore_n 3, 1), (50, .iconst 3, 1), (51, .istore 4, 2), (53, .iload 4, 2), (55, .aload_n 0, 1), (56, .arraylength, 1), (57, .iconst 5, 1), (58, .isub, 1), (59, .if_icmp .gt 807, 3), (62, .aload_n 0, 1), (63, .iload 4, 2)], [(65, .iaload, 1), (66, .bipush 15, 2), (68, .iand, 1), (69, .tableswitch 791 0 13 #[71, 163, 231, 299, 367, 423, 479, 492, 505, 518, 586, 600, 668, 724], 71)], [(140, .aload_n 1, 1), (141, .aload_n 0, 1), (142, .iload 4, 2), (144, .iconst 1, 1), (145, .iadd, 1), (146, .iaload, 1), (147, .aload_n 0, 1), (148, .iload 4, 2), (150, .iconst 2, 1), (151, .iadd, 1), (152, .iaload, 1), (153, .aload_n 0, 1), (154, .iload 4, 2), (156, .iconst 3, 1), (157, .iadd, 1), (158, .iaload, 1), (159, .aload_n 0, 1), (160, .iload 4, 2), (162, .iconst 4, 1), (163, .iadd, 1), (164, .iaload, 1), (165, .aload_n 3, 1), (166, .invokestatic 63, 3), (169, .istore 5, 2), (171, .aload_n 2, 1), (172, .aload_n 0, 1), (173, .iload 4, 2), (175, .iconst 1, 1), (176, .iadd, 1), (177, .iaload, 1), (178, .aload_n 0, 1), (179, .iload 4, 2), (181, .iconst 2, 1), (182, .iadd, 1), (183, .iaload, 1), (184, .aload_n 0, 1), (185, .iload 4, 2), (187, .iconst 3, 1), (188, .iadd, 1), (189, .iaload, 1), (190, .aload_n 0, 1), (191, .iload 4, 2)], [(193, .iconst 4, 1), (194, .iadd, 1), (195, .iaload, 1), (196, .invokevirtual 66, 3), (199, .istore 6, 2), (201, .aload_n 2, 1), (202, .invokevirtual 67, 3), (205, .iload 5, 2), (207, .if_icmp .eq 5, 3), (210, .iconst 0, 1), (211, .ireturn, 1), (212, .iload 5, 2), (214, .ifCond .ne 15, 3), (217, .aload_n 3, 1), (218, .iconst 0, 1), (219, .laload, 1), (220, .iload 6, 2), (222, .i2l, 1), (223, .lcmp, 1), (224, .ifCond .eq 5, 3), (227, .iconst 0, 1), (228, .ireturn, 1), (229, .goto 631, 3), (232, .aload_n 1, 1), (233, .aload_n 0, 1), (234, .iload 4, 2), (236, .iconst 1, 1), (237, .iadd, 1), (238, .iaload, 1), (239, .aload_n 0, 1), (240, .iload 4, 2), (242, .iconst 2, 1), (243, .iadd, 1), (244, .iaload, 1), (245, .aload_n 3, 1), (246, .invokestatic 71, 3), (249, .istore 5, 2), (251, .aload_n 2, 1), (252, .aload_n 0, 1), (253, .iload 4, 2), (255, .iconst 1, 1)], [(256, .iadd, 1), (257, .iaload, 1), (258, .aload_n 0, 1), (259, .iload 4, 2), (261, .iconst 2, 1), (262, .iadd, 1), (263, .iaload, 1), (264, .invokevirtual 74, 3), (267, .istore 6, 2), (269, .aload_n 2, 1), (270, .invokevirtual 67, 3), (273, .iload 5, 2), (275, .if_icmp .eq 5, 3), (278, .iconst 0, 1), (279, .ireturn, 1), (280, .iload 5, 2), (282, .ifCond .ne 15, 3), (285, .aload_n 3, 1), (286, .iconst 0, 1), (287, .laload, 1), (288, .iload 6, 2), (290, .i2l, 1), (291, .lcmp, 1), (292, .ifCond .eq 5, 3), (295, .iconst 0, 1), (296, .ireturn, 1), (297, .goto 563, 3), (300, .aload_n 1, 1), (301, .aload_n 0, 1), (302, .iload 4, 2), (304, .iconst 1, 1), (305, .iadd, 1), (306, .iaload, 1), (307, .aload_n 0, 1), (308, .iload 4, 2), (310, .iconst 2, 1), (311, .iadd, 1), (312, .iaload, 1), (313, .aload_n 3, 1), (314, .invokestatic 75, 3), (317, .istore 5, 2), (319, .aload_n 2, 1)], [(320, .aload_n 0, 1), (321, .iload 4, 2), (323, .iconst 1, 1), (324, .iadd, 1), (325, .iaload, 1), (326, .aload_n 0, 1), (327, .iload 4, 2), (329, .iconst 2, 1), (330, .iadd, 1), (331, .iaload, 1), (332, .invokevirtual 77, 3), (335, .istore 6, 2), (337, .aload_n 2, 1), (338, .invokevirtual 67, 3), (341, .iload 5, 2), (343, .if_icmp .eq 5, 3), (346, .iconst 0, 1), (347, .ireturn, 1), (348, .iload 5, 2), (350, .ifCond .ne 15, 3), (353, .aload_n 3, 1), (354, .iconst 0, 1), (355, .laload, 1), (356, .iload 6, 2), (358, .i2l, 1), (359, .lcmp, 1), (360, .ifCond .eq 5, 3), (363, .iconst 0, 1), (364, .ireturn, 1), (365, .goto 495, 3), (368, .aload_n 1, 1), (369, .aload_n 0, 1), (370, .iload 4, 2), (372, .iconst 1, 1), (373, .iadd, 1), (374, .iaload, 1), (375, .aload_n 0, 1), (376, .iload 4, 2), (378, .iconst 2, 1), (379, .iadd, 1), (380, .iaload, 1), (381, .aload_n 3, 1), (382, .invokestatic 78, 3)], [(385, .istore 5, 2), (387, .aload_n 2, 1), (388, .aload_n 0, 1), (389, .iload 4, 2), (391, .iconst 1, 1), (392, .iadd, 1), (393, .iaload, 1), (394, .aload_n 0, 1), (395, .iload 4, 2), (397, .iconst 2, 1), (398, .iadd, 1), (399, .iaload, 1), (400, .invokevirtual 80, 3), (403, .istore 6, 2), (405, .aload_n 2, 1), (406, .invokevirtual 67, 3), (409, .iload 5, 2), (411, .if_icmp .eq 5, 3), (414, .iconst 0, 1), (415, .ireturn, 1), (416, .iload 5, 2), (418, .ifCond .ne 15, 3), (421, .aload_n 3, 1), (422, .iconst 0, 1), (423, .laload, 1), (424, .iload 6, 2), (426, .i2l, 1), (427, .lcmp, 1), (428, .ifCond .eq 5, 3), (431, .iconst 0, 1), (432, .ireturn, 1), (433, .goto 427, 3), (436, .aload_n 1, 1), (437, .aload_n 0, 1), (438, .iload 4, 2), (440, .iconst 1, 1), (441, .iadd, 1), (442, .iaload, 1), (443, .aload_n 3, 1), (444, .invokestatic 81, 3), (447, .istore 5, 2)], [(449, .aload_n 2, 1), (450, .aload_n 0, 1), (451, .iload 4, 2), (453, .iconst 1, 1), (454, .iadd, 1), (455, .iaload, 1), (456, .invokevirtual 84, 3), (459, .istore 6, 2), (461, .aload_n 2, 1), (462, .invokevirtual 67, 3), (465, .iload 5, 2), (467, .if_icmp .eq 5, 3), (470, .iconst 0, 1), (471, .ireturn, 1), (472, .iload 5, 2), (474, .ifCond .ne 15, 3), (477, .aload_n 3, 1), (478, .iconst 0, 1), (479, .laload, 1), (480, .iload 6, 2), (482, .i2l, 1), (483, .lcmp, 1), (484, .ifCond .eq 5, 3), (487, .iconst 0, 1), (488, .ireturn, 1), (489, .goto 371, 3), (492, .aload_n 1, 1), (493, .aload_n 0, 1), (494, .iload 4, 2), (496, .iconst 1, 1), (497, .iadd, 1), (498, .iaload, 1), (499, .aload_n 3, 1), (500, .invokestatic 85, 3), (503, .istore 5, 2), (505, .aload_n 2, 1), (506, .aload_n 0, 1), (507, .iload 4, 2), (509, .iconst 1, 1), (510, .iadd, 1), (511, .iaload, 1)], [(512, .invokevirtual 87, 3), (515, .istore 6, 2), (517, .aload_n 2, 1), (518, .invokevirtual 67, 3), (521, .iload 5, 2), (523, .if_icmp .eq 5, 3), (526, .iconst 0, 1), (527, .ireturn, 1), (528, .iload 5, 2), (530, .ifCond .ne 15, 3), (533, .aload_n 3, 1), (534, .iconst 0, 1), (535, .laload, 1), (536, .iload 6, 2), (538, .i2l, 1), (539, .lcmp, 1), (540, .ifCond .eq 5, 3), (543, .iconst 0, 1), (544, .ireturn, 1), (545, .goto 315, 3), (548, .aload_n 1, 1), (549, .invokevirtual 88, 3), (552, .aload_n 2, 1), (553, .invokevirtual 92, 3), (556, .if_icmp .eq 304, 3), (559, .iconst 0, 1), (560, .ireturn, 1), (561, .aload_n 1, 1), (562, .invokevirtual 93, 3), (565, .aload_n 2, 1), (566, .invokevirtual 96, 3), (569, .if_icmp .eq 291, 3), (572, .iconst 0, 1), (573, .ireturn, 1), (574, .aload_n 1, 1), (575, .invokevirtual 97, 3)], [(578, .aload_n 2, 1), (579, .invokevirtual 100, 3), (582, .if_icmp .eq 278, 3), (585, .iconst 0, 1), (586, .ireturn, 1), (587, .aload_n 1, 1), (588, .aload_n 0, 1), (589, .iload 4, 2), (591, .iconst 1, 1), (592, .iadd, 1), (593, .iaload, 1), (594, .aload_n 0, 1), (595, .iload 4, 2), (597, .iconst 2, 1), (598, .iadd, 1), (599, .iaload, 1), (600, .aload_n 3, 1), (601, .invokestatic 101, 3), (604, .istore 5, 2), (606, .aload_n 2, 1), (607, .aload_n 0, 1), (608, .iload 4, 2), (610, .iconst 1, 1), (611, .iadd, 1), (612, .iaload, 1), (613, .aload_n 0, 1), (614, .iload 4, 2), (616, .iconst 2, 1), (617, .iadd, 1), (618, .iaload, 1), (619, .invokevirtual 103, 3), (622, .istore 6, 2), (624, .aload_n 2, 1), (625, .invokevirtual 67, 3), (628, .iload 5, 2), (630, .if_icmp .eq 5, 3), (633, .iconst 0, 1), (634, .ireturn, 1), (635, .iload 5, 2), (637, .ifCond .ne 15, 3)], [(640, .aload_n 3, 1), (641, .iconst 0, 1), (642, .laload, 1), (643, .iload 6, 2), (645, .i2l, 1), (646, .lcmp, 1), (647, .ifCond .eq 5, 3), (650, .iconst 0, 1), (651, .ireturn, 1), (652, .goto 208, 3), (655, .aload_n 1, 1), (656, .invokevirtual 104, 3), (659, .aload_n 2, 1), (660, .invokevirtual 108, 3), (663, .lcmp, 1), (664, .ifCond .eq 196, 3), (667, .iconst 0, 1), (668, .ireturn, 1), (669, .aload_n 1, 1), (670, .aload_n 0, 1), (671, .iload 4, 2), (673, .iconst 1, 1), (674, .iadd, 1), (675, .iaload, 1), (676, .aload_n 0, 1), (677, .iload 4, 2), (679, .iconst 2, 1), (680, .iadd, 1), (681, .iaload, 1), (682, .aload_n 3, 1), (683, .invokestatic 109, 3), (686, .istore 5, 2), (688, .aload_n 2, 1), (689, .aload_n 0, 1), (690, .iload 4, 2), (692, .iconst 1, 1), (693, .iadd, 1), (694, .iaload, 1), (695, .aload_n 0, 1), (696, .iload 4, 2), (698, .iconst 2, 1), (699, .iadd, 1), (700, .iaload, 1), (701, .invokevirtual 111, 3)], [(704, .istore 6, 2), (706, .aload_n 2, 1), (707, .invokevirtual 67, 3), (710, .iload 5, 2), (712, .if_icmp .eq 5, 3), (715, .iconst 0, 1), (716, .ireturn, 1), (717, .iload 5, 2), (719, .ifCond .ne 15, 3), (722, .aload_n 3, 1), (723, .iconst 0, 1), (724, .laload, 1), (725, .iload 6, 2), (727, .i2l, 1), (728, .lcmp, 1), (729, .ifCond .eq 5, 3), (732, .iconst 0, 1), (733, .ireturn, 1), (734, .goto 126, 3), (737, .aload_n 1, 1), (738, .aload_n 0, 1), (739, .iload 4, 2), (741, .iconst 1, 1), (742, .iadd, 1), (743, .iaload, 1), (744, .aload_n 3, 1), (745, .invokestatic 112, 3), (748, .istore 5, 2), (750, .aload_n 2, 1), (751, .aload_n 0, 1), (752, .iload 4, 2), (754, .iconst 1, 1), (755, .iadd, 1), (756, .iaload, 1), (757, .invokevirtual 114, 3), (760, .istore 6, 2), (762, .aload_n 2, 1), (763, .invokevirtual 67, 3), (766, .iload 5, 2)], [(768, .if_icmp .eq 5, 3), (771, .iconst 0, 1), (772, .ireturn, 1), (773, .iload 5, 2), (775, .ifCond .ne 15, 3), (778, .aload_n 3, 1), (779, .iconst 0, 1), (780, .laload, 1), (781, .iload 6, 2), (783, .i2l, 1), (784, .lcmp, 1), (785, .ifCond .eq 5, 3), (788, .iconst 0, 1), (789, .ireturn, 1), (790, .goto 70, 3), (793, .aload_n 1, 1), (794, .aload_n 0, 1), (795, .iload 4, 2), (797, .iconst 1, 1), (798, .iadd, 1), (799, .iaload, 1), (800, .aload_n 0, 1), (801, .iload 4, 2), (803, .iconst 2, 1), (804, .iadd, 1), (805, .iaload, 1), (806, .aload_n 3, 1), (807, .invokestatic 115, 3), (810, .istore 5, 2), (812, .aload_n 2, 1), (813, .aload_n 0, 1), (814, .iload 4, 2), (816, .iconst 1, 1), (817, .iadd, 1), (818, .iaload, 1), (819, .aload_n 0, 1), (820, .iload 4, 2), (822, .iconst 2, 1), (823, .iadd, 1), (824, .iaload, 1), (825, .invokevirtual 117, 3), (828, .lstore 6, 2), (830, .aload_n 2, 1), (831, .invokevirtual 67, 3)], [(834, .iload 5, 2), (836, .if_icmp .eq 5, 3), (839, .iconst 0, 1), (840, .ireturn, 1), (841, .iload 5, 2), (843, .ifCond .ne 14, 3), (846, .aload_n 3, 1), (847, .iconst 0, 1), (848, .laload, 1), (849, .lload 6, 2), (851, .lcmp, 1), (852, .ifCond .eq 5, 3), (855, .iconst 0, 1), (856, .ireturn, 1), (857, .goto 3, 3), (860, .iinc 4 5, 3), (863, .goto (-810), 3), (866, .iconst 1, 1), (867, .ireturn, 1)]]
def tb_c1 : List (List (Nat × ClassFile.Instr × Nat)) := [[(0, .aload_n 0, 1), (1, .invokespecial 1, 3), (4, .aload_n 0, 1), (5, .new 7, 3), (8, .dup, 1), (9, .iload_n 1, 1), (10, .invokestatic 9, 3), (13, .iload_n 2, 1), (14, .invokestatic 9, 3), (17, .iload_n 3, 1), (18, .invokestatic 9, 3), (21, .invokespecial 15, 3), (24, .putfield 18, 3), (27, .aload_n 0, 1), (28, .new 22, 3), (31, .dup, 1), (32, .aload_n 0, 1), (33, .getfield 18, 3), (36, .invokespecial 24, 3), (39, .putfield 27, 3), (42, .aload_n 0, 1), (43, .new 31, 3), (46, .dup, 1), (47, .aload_n 0, 1), (48, .getfield 18, 3), (51, .aload_n 0, 1), (52, .getfield 27, 3), (55, .invokespecial 33, 3), (58, .putfield 36, 3), (61, .aload_n 0, 1), (62, .new 40, 3)], [(65, .dup, 1), (66, .invokespecial 42, 3), (69, .putfield 43, 3), (72, .return_, 1)]]
def tb_c2 : List (List (Nat × ClassFile.Instr × Nat)) := [[(0, .iconst 1, 1), (1, .sipush 200, 3), (4, .iload_n 0, 1), (5, .invokestatic 138, 3), (8, .invokestatic 200, 3), (11, .ireturn, 1)]]
def tb_c3 : List (List (Nat × ClassFile.Instr × Nat)) := [[(0, .iload_n 0, 1), (1, .iload_n 1, 1), (2, .if_icmp .gt 7, 3), (5, .iload_n 0, 1), (6, .goto 4, 3), (9, .iload_n 1, 1), (10, .ireturn, 1)]]
def tb_c4 : List (List (Nat × ClassFile.Instr × Nat)) := [[(0, .iload_n 0, 1), (1, .iload_n 1, 1), (2, .if_icmp .lt 7, 3), (5, .iload_n 0, 1), (6, .goto 4, 3), (9, .iload_n 1, 1), (10, .ireturn, 1)]]
def tb_c5 : List (List (Nat × ClassFile.Instr × Nat)) := [[(0, .aload_n 0, 1), (1, .invokespecial 1, 3), (4, .aload_n 0, 1), (5, .iload_n 1, 1), (6, .putfield 7, 3), (9, .aload_n 0, 1), (10, .iload_n 2, 1), (11, .putfield 13, 3), (14, .aload_n 0, 1), (15, .iload_n 3, 1), (16, .putfield 16, 3), (19, .return_, 1)]]
def tb_c6 : List (List (Nat × ClassFile.Instr × Nat)) := [[(0, .aload_n 0, 1), (1, .invokespecial 3, 3), (4, .aload_n 0, 1), (5, .bipush 8, 2), (7, .anewarray 9, 3), (10, .putfield 11, 3), (13, .iconst 0, 1), (14, .istore_n 2, 1), (15, .iload_n 2, 1), (16, .bipush 8, 2), (18, .if_icmp .ge 23, 3), (21, .aload_n 0, 1), (22, .getfield 11, 3), (25, .iload_n 2, 1), (26, .new 9, 3), (29, .dup, 1), (30, .aload_n 1, 1), (31, .invokespecial 17, 3), (34, .aastore, 1), (35, .iinc 2 1, 3), (38, .goto (-23), 3), (41, .return_, 1)]]
def tb_c7 : List (List (Nat × ClassFile.Instr × Nat)) := [[(0, .aload_n 0, 1), (1, .invokespecial 3, 3), (4, .aload_n 0, 1), (5, .bipush 6, 2), (7, .newarray .boolean, 2), (9, .putfield 9, 3), (12, .aload_n 0, 1), (13, .aload_n 1, 1), (14, .putfield 15, 3), (17, .return_, 1)]]
def tb_c8 : List (List (Nat × ClassFile.Instr × Nat)) := [[(0, .aload_n 0, 1), (1, .invokespecial 3, 3), (4, .aload_n 0, 1), (5, .new 9, 3), (8, .dup, 1), (9, .invokespecial 11, 3), (12, .putfield 12, 3), (15, .aload_n 0, 1), (16, .new 9, 3), (19, .dup, 1), (20, .invokespecial 11, 3), (23, .putfield 18, 3), (26, .aload_n 0, 1), (27, .new 21, 3), (30, .dup, 1), (31, .invokespecial 23, 3), (34, .putfield 24, 3), (37, .aload_n 0, 1), (38, .new 21, 3), (41, .dup, 1), (42, .invokespecial 23, 3), (45, .putfield 28, 3), (48, .aload_n 0, 1), (49, .new 21, 3), (52, .dup, 1), (53, .invokespecial 23, 3), (56, .putfield 31, 3), (59, .aload_n 0, 1), (60, .bipush 64, 2), (62, .anewarray 34, 3)], [(65, .putfield 36, 3), (68, .aload_n 0, 1), (69, .iconst (-1), 1), (70, .putfield 40, 3), (73, .aload_n 0, 1), (74, .aload_n 1, 1), (75, .putfield 44, 3), (78, .aload_n 0, 1), (79, .aload_n 2, 1), (80, .putfield 48, 3), (83, .iconst 0, 1), (84, .istore_n 3, 1), (85, .iload_n 3, 1), (86, .bipush 64, 2), (88, .if_icmp .ge 22, 3), (91, .aload_n 0, 1), (92, .getfield 36, 3), (95, .iload_n 3, 1), (96, .new 34, 3), (99, .dup, 1), (100, .invokespecial 52, 3), (103, .aastore, 1), (104, .iinc 3 1, 3), (107, .goto (-22), 3), (110, .return_, 1)]]
def tb_c9 : List (List (Nat × ClassFile.Instr × Nat)) := [[(0, .aload_n 0, 1), (1, .invokespecial 3, 3), (4, .aload_n 0, 1), (5, .bipush 8, 2), (7, .anewarray 9, 3), (10, .putfield 11, 3), (13, .iconst 0, 1), (14, .istore_n 1, 1), (15, .iload_n 1, 1), (16, .bipush 8, 2), (18, .if_icmp .ge 23, 3), (21, .aload_n 0, 1), (22, .getfield 11, 3), (25, .iload_n 1, 1), (26, .new 9, 3), (29, .dup, 1), (30, .iload_n 1, 1), (31, .invokespecial 17, 3), (34, .aastore, 1), (35, .iinc 1 1, 3), (38, .goto (-23), 3), (41, .return_, 1)]]
def tb_c10 : List (List (Nat × ClassFile.Instr × Nat)) := [[(0, .aload_n 0, 1), (1, .invokespecial 1, 3), (4, .aload_n 0, 1), (5, .iload_n 1, 1), (6, .putfield 7, 3), (9, .return_, 1)]]
def tb_c11 : List (List (Nat × ClassFile.Instr × Nat)) := [[(0, .aload_n 0, 1), (1, .invokespecial 3, 3), (4, .aload_n 0, 1), (5, .bipush 8, 2), (7, .bipush 8, 2), (9, .multianewarray 9 2, 4), (13, .putfield 11, 3), (16, .aload_n 0, 1), (17, .bipush 8, 2), (19, .newarray .int, 2), (21, .putfield 16, 3), (24, .aload_n 0, 1), (25, .getfield 16, 3), (28, .iconst 0, 1), (29, .iconst 1, 1), (30, .iastore, 1), (31, .return_, 1)]]
def tb_c12 : List (List (Nat × ClassFile.Instr × Nat)) := [[(0, .aload_n 0, 1), (1, .invokespecial 1, 3), (4, .return_, 1)]]
def tb_c13 : List (List (Nat × ClassFile.Instr × Nat)) := [[(0, .aload_n 0, 1), (1, .invokespecial 3, 3), (4, .aload_n 0, 1), (5, .bipush 6, 2), (7, .newarray .int, 2), (9, .putfield 9, 3), (12, .return_, 1)]]
def tb_c14 : List (List (Nat × ClassFile.Instr × Nat)) := [[(0, .aload_n 0, 1), (1, .getfield 36, 3), (4, .getfield 127, 3), (7, .iconst (-1), 1), (8, .if_icmp .eq 17, 3), (11, .aload_n 0, 1), (12, .getfield 36, 3), (15, .getfield 130, 3), (18, .ifCond .ne 7, 3), (21, .iconst 1, 1), (22, .goto 4, 3), (25, .iconst 0, 1), (26, .ireturn, 1)]]
def tb_c15 : List (List (Nat × ClassFile.Instr × Nat)) := [[(0, .aload_n 0, 1), (1, .getfield 36, 3), (4, .getfield 127, 3), (7, .ireturn, 1)]]
def tb_c16 : List (List (Nat × ClassFile.Instr × Nat)) := [[(0, .aload_n 0, 1), (1, .getfield 18, 3), (4, .invokevirtual 134, 3), (7, .aload_n 0, 1), (8, .getfield 27, 3), (11, .invokevirtual 137, 3), (14, .invokestatic 138, 3), (17, .ireturn, 1)]]
def tb_c17 : List (List (Nat × ClassFile.Instr × Nat)) := [[(0, .aload_n 0, 1), (1, .getfield 7, 3), (4, .aload_n 0, 1), (5, .getfield 13, 3), (8, .imul, 1), (9, .aload_n 0, 1), (10, .getfield 16, 3), (13, .imul, 1), (14, .ireturn, 1)]]
def tb_c18 : List (List (Nat × ClassFile.Instr × Nat)) := [[(0, .iconst 0, 1), (1, .istore_n 1, 1), (2, .iconst 0, 1), (3, .istore_n 2, 1), (4, .iload_n 2, 1), (5, .aload_n 0, 1), (6, .getfield 20, 3), (9, .if_icmp .ge 33, 3), (12, .aload_n 0, 1), (13, .getfield 11, 3), (16, .iload_n 2, 1), (17, .aaload, 1), (18, .getfield 43, 3), (21, .ifCond .le 15, 3), (24, .iload_n 1, 1), (25, .aload_n 0, 1), (26, .getfield 11, 3), (29, .iload_n 2, 1), (30, .aaload, 1), (31, .invokevirtual 46, 3), (34, .iadd, 1), (35, .istore_n 1, 1), (36, .iinc 2 1, 3), (39, .goto (-35), 3), (42, .iload_n 1, 1), (43, .ireturn, 1)]]
def tb_c19 : List (List (Nat × ClassFile.Instr × Nat)) := [[(0, .aload_n 0, 1), (1, .getfield 19, 3), (4, .aload_n 0, 1), (5, .getfield 23, 3), (8, .imul, 1), (9, .aload_n 0, 1), (10, .getfield 26, 3), (13, .imul, 1), (14, .ireturn, 1)]]
def tb_c20 : List (List (Nat × ClassFile.Instr × Nat)) := [[(0, .aload_n 0, 1), (1, .getfield 36, 3), (4, .getfield 118, 3), (7, .getfield 158, 3), (10, .lreturn, 1)]]
def tb_c21 : List (List (Nat × ClassFile.Instr × Nat)) := [[(0, .iload_n 1, 1), (1, .aload_n 0, 1), (2, .arraylength, 1), (3, .if_icmp .ge 9, 3), (6, .aload_n 0, 1), (7, .iload_n 1, 1), (8, .iaload, 1), (9, .goto 4, 3), (12, .iconst 0, 1), (13, .ireturn, 1)]]
def tb_c22 : List (List (Nat × ClassFile.Instr × Nat)) := [[(0, .aload 5, 2), (2, .iconst 0, 1), (3, .aload_n 0, 1), (4, .iload_n 1, 1), (5, .iload_n 2, 1), (6, .iload_n 3, 1), (7, .iload 4, 2), (9, .invokevirtual 7, 3), (12, .i2l, 1), (13, .lastore, 1), (14, .goto 11, 3), (17, .astore 6, 2), (19, .iconst 1, 1), (20, .ireturn, 1), (21, .astore 6, 2), (23, .iconst 2, 1), (24, .ireturn, 1), (25, .iconst 0, 1), (26, .ireturn, 1)]]
def tb_c23 : List (List (Nat × ClassFile.Instr × Nat)) := [[(0, .iload_n 1, 1), (1, .invokestatic 47, 3), (4, .ifCond .eq 17, 3), (7, .iload_n 2, 1), (8, .invokestatic 47, 3), (11, .ifCond .eq 10, 3), (14, .iload_n 3, 1), (15, .invokestatic 47, 3), (18, .ifCond .ne 13, 3), (21, .new 51, 3), (24, .dup, 1), (25, .ldc 53, 2), (27, .invokespecial 55, 3), (30, .athrow, 1), (31, .iload 4, 2), (33, .iconst 1, 1), (34, .sipush 10000, 3), (37, .invokestatic 58, 3), (40, .ifCond .ne 13, 3), (43, .new 51, 3), (46, .dup, 1), (47, .ldc 62, 2), (49, .invokespecial 55, 3), (52, .athrow, 1), (53, .aload_n 0, 1), (54, .getfield 27, 3), (57, .invokevirtual 64, 3), (60, .ifCond .eq 13, 3), (63, .new 68, 3)], [(66, .dup, 1), (67, .ldc 70, 2), (69, .invokespecial 72, 3), (72, .athrow, 1), (73, .aload_n 0, 1), (74, .getfield 36, 3), (77, .invokevirtual 73, 3), (80, .aload_n 0, 1), (81, .getfield 27, 3), (84, .iload_n 1, 1), (85, .iload_n 2, 1), (86, .iload_n 3, 1), (87, .iload 4, 2), (89, .invokevirtual 76, 3), (92, .ireturn, 1)]]
def tb_c24 : List (List (Nat × ClassFile.Instr × Nat)) := [[(0, .iload_n 0, 1), (1, .iconst 1, 1), (2, .sipush 200, 3), (5, .invokestatic 58, 3), (8, .ireturn, 1)]]
def tb_c25 : List (List (Nat × ClassFile.Instr × Nat)) := [[(0, .iload_n 0, 1), (1, .iload_n 1, 1), (2, .if_icmp .lt 12, 3), (5, .iload_n 0, 1), (6, .iload_n 2, 1), (7, .if_icmp .gt 7, 3), (10, .iconst 1, 1), (11, .goto 4, 3), (14, .iconst 0, 1), (15, .ireturn, 1)]]
def tb_c26 : List (List (Nat × ClassFile.Instr × Nat)) := [[(0, .aload_n 0, 1), (1, .getfield 20, 3), (4, .bipush 8, 2), (6, .if_icmp .lt 7, 3), (9, .iconst 1, 1), (10, .goto 4, 3), (13, .iconst 0, 1), (14, .ireturn, 1)]]
def tb_c27 : List (List (Nat × ClassFile.Instr × Nat)) := [[(0, .aload_n 0, 1), (1, .iconst (-1), 1), (2, .putfield 40, 3), (5, .aload_n 0, 1), (6, .getfield 18, 3), (9, .invokevirtual 53, 3), (12, .return_, 1)]]
def tb_c28 : List (List (Nat × ClassFile.Instr × Nat)) := [[(0, .aload_n 0, 1), (1, .iconst 0, 1), (2, .putfield 20, 3), (5, .aload_n 0, 1), (6, .iconst 0, 1), (7, .putfield 24, 3), (10, .aload_n 0, 1), (11, .lconst 0, 1), (12, .putfield 27, 3), (15, .return_, 1)]]
def tb_c29 : List (List (Nat × ClassFile.Instr × Nat)) := [[(0, .aload_n 0, 1), (1, .invokevirtual 24, 3), (4, .ifCond .eq 5, 3), (7, .iconst (-1), 1), (8, .ireturn, 1), (9, .aload_n 0, 1), (10, .getfield 11, 3), (13, .aload_n 0, 1), (14, .getfield 20, 3), (17, .aaload, 1), (18, .iload_n 1, 1), (19, .iload_n 2, 1), (20, .iload_n 3, 1), (21, .iload 4, 2), (23, .invokevirtual 28, 3), (26, .aload_n 0, 1), (27, .dup, 1), (28, .getfield 20, 3), (31, .iconst 1, 1), (32, .iadd, 1), (33, .putfield 20, 3), (36, .aload_n 0, 1), (37, .getfield 20, 3), (40, .iconst 1, 1), (41, .isub, 1), (42, .ireturn, 1)]]
def tb_c30 : List (List (Nat × ClassFile.Instr × Nat)) := [[(0, .aload_n 0, 1), (1, .iload_n 1, 1), (2, .putfield 19, 3), (5, .aload_n 0, 1), (6, .iload_n 2, 1), (7, .putfield 23, 3), (10, .aload_n 0, 1), (11, .iload_n 3, 1), (12, .putfield 26, 3), (15, .aload_n 0, 1), (16, .iload 4, 2), (18, .putfield 29, 3), (21, .aload_n 0, 1), (22, .iconst 0, 1), (23, .putfield 32, 3), (26, .aload_n 0, 1), (27, .ldc 35, 2), (29, .putfield 36, 3), (32, .aload_n 0, 1), (33, .iconst 0, 1), (34, .invokevirtual 39, 3), (37, .return_, 1)]]
def tb_c31 : List (List (Nat × ClassFile.Instr × Nat)) := [[(0, .aload_n 0, 1), (1, .iload_n 1, 1), (2, .putfield 43, 3), (5, .aload_n 0, 1), (6, .iconst 0, 1), (7, .putfield 46, 3), (10, .iconst 0, 1), (11, .istore_n 2, 1), (12, .iload_n 2, 1), (13, .bipush 6, 2), (15, .if_icmp .ge 59, 3), (18, .aload_n 0, 1), (19, .getfield 9, 3), (22, .iload_n 2, 1), (23, .aload_n 0, 1), (24, .iload_n 2, 1), (25, .invokevirtual 49, 3), (28, .ifCond .eq 15, 3), (31, .aload_n 0, 1), (32, .iload_n 2, 1), (33, .invokevirtual 53, 3), (36, .ifCond .eq 7, 3), (39, .iconst 1, 1), (40, .goto 4, 3), (43, .iconst 0, 1), (44, .bastore, 1), (45, .aload_n 0, 1), (46, .dup, 1), (47, .getfield 46, 3), (50, .aload_n 0, 1), (51, .getfield 9, 3), (54, .iload_n 2, 1), (55, .baload, 1), (56, .ifCond .eq 7, 3), (59, .iconst 1, 1), (60, .goto 4, 3), (63, .iconst 0, 1)], [(64, .iadd, 1), (65, .putfield 46, 3), (68, .iinc 2 1, 3), (71, .goto (-59), 3), (74, .return_, 1)]]
def tb_c32 : List (List (Nat × ClassFile.Instr × Nat)) := [[(0, .aload_n 0, 1), (1, .iload_n 1, 1), (2, .invokevirtual 66, 3), (5, .ifCond .ne 5, 3), (8, .iconst 0, 1), (9, .ireturn, 1), (10, .iconst 0, 1), (11, .istore_n 2, 1), (12, .iload_n 2, 1), (13, .iload_n 1, 1), (14, .if_icmp .ge 28, 3), (17, .aload_n 0, 1), (18, .iload_n 2, 1), (19, .invokevirtual 66, 3), (22, .ifCond .eq 14, 3), (25, .aload_n 0, 1), (26, .iload_n 2, 1), (27, .iload_n 1, 1), (28, .invokevirtual 69, 3), (31, .ifCond .eq 5, 3), (34, .iconst 0, 1), (35, .ireturn, 1), (36, .iinc 2 1, 3), (39, .goto (-27), 3), (42, .iconst 1, 1), (43, .ireturn, 1)]]
def tb_c33 : List (List (Nat × ClassFile.Instr × Nat)) := [[(0, .iload_n 1, 1), (1, .ifCond .ne 5, 3), (4, .iconst 1, 1), (5, .ireturn, 1), (6, .iload_n 1, 1), (7, .iconst 1, 1), (8, .if_icmp .ne 21, 3), (11, .aload_n 0, 1), (12, .getfield 43, 3), (15, .iconst 1, 1), (16, .iand, 1), (17, .iconst 1, 1), (18, .if_icmp .ne 7, 3), (21, .iconst 1, 1), (22, .goto 20, 3), (25, .iconst 0, 1), (26, .goto 16, 3), (29, .aload_n 0, 1), (30, .getfield 43, 3), (33, .iconst 2, 1), (34, .if_icmp .lt 7, 3), (37, .iconst 1, 1), (38, .goto 4, 3), (41, .iconst 0, 1), (42, .ireturn, 1)]]
def tb_c34 : List (List (Nat × ClassFile.Instr × Nat)) := [[(0, .aload_n 0, 1), (1, .iload_n 1, 1), (2, .invokevirtual 56, 3), (5, .aload_n 0, 1), (6, .iload_n 2, 1), (7, .invokevirtual 56, 3), (10, .if_icmp .ne 33, 3), (13, .aload_n 0, 1), (14, .iload_n 1, 1), (15, .invokevirtual 60, 3), (18, .aload_n 0, 1), (19, .iload_n 2, 1), (20, .invokevirtual 60, 3), (23, .if_icmp .ne 20, 3), (26, .aload_n 0, 1), (27, .iload_n 1, 1), (28, .invokevirtual 63, 3), (31, .aload_n 0, 1), (32, .iload_n 2, 1), (33, .invokevirtual 63, 3), (36, .if_icmp .ne 7, 3), (39, .iconst 1, 1), (40, .goto 4, 3), (43, .iconst 0, 1), (44, .ireturn, 1)]]
def tb_c35 : List (List (Nat × ClassFile.Instr × Nat)) := [[(0, .iload_n 1, 1), (1, .tableswitch 45 1 5 #[35, 40, 35, 45, 40], 35), (36, .aload_n 0, 1), (37, .getfield 26, 3), (40, .ireturn, 1), (41, .aload_n 0, 1), (42, .getfield 23, 3), (45, .ireturn, 1), (46, .aload_n 0, 1), (47, .getfield 19, 3), (50, .ireturn, 1)]]
def tb_c36 : List (List (Nat × ClassFile.Instr × Nat)) := [[(0, .iload_n 1, 1), (1, .tableswitch 41 2 5 #[31, 31, 36, 36], 31), (32, .aload_n 0, 1), (33, .getfield 19, 3), (36, .ireturn, 1), (37, .aload_n 0, 1), (38, .getfield 26, 3), (41, .ireturn, 1), (42, .aload_n 0, 1), (43, .getfield 23, 3), (46, .ireturn, 1)]]
def tb_c37 : List (List (Nat × ClassFile.Instr × Nat)) := [[(0, .iload_n 1, 1), (1, .tableswitch 45 1 5 #[35, 45, 40, 40, 35], 35), (36, .aload_n 0, 1), (37, .getfield 19, 3), (40, .ireturn, 1), (41, .aload_n 0, 1), (42, .getfield 23, 3), (45, .ireturn, 1), (46, .aload_n 0, 1), (47, .getfield 26, 3), (50, .ireturn, 1)]]
def tb_c38 : List (List (Nat × ClassFile.Instr × Nat)) := [[(0, .aload_n 0, 1), (1, .iload_n 1, 1), (2, .invokevirtual 56, 3), (5, .aload_n 0, 1), (6, .getfield 15, 3), (9, .getfield 73, 3), (12, .if_icmp .gt 37, 3), (15, .aload_n 0, 1), (16, .iload_n 1, 1), (17, .invokevirtual 60, 3), (20, .aload_n 0, 1), (21, .getfield 15, 3), (24, .getfield 76, 3), (27, .if_icmp .gt 22, 3), (30, .aload_n 0, 1), (31, .iload_n 1, 1), (32, .invokevirtual 63, 3), (35, .aload_n 0, 1), (36, .getfield 15, 3), (39, .getfield 77, 3), (42, .if_icmp .gt 7, 3), (45, .iconst 1, 1), (46, .goto 4, 3), (49, .iconst 0, 1), (50, .ireturn, 1)]]
def tb_c39 : List (List (Nat × ClassFile.Instr × Nat)) := [[(0, .aload_n 3, 1), (1, .iconst 0, 1), (2, .aload_n 0, 1), (3, .iload_n 1, 1), (4, .iload_n 2, 1), (5, .invokevirtual 17, 3), (8, .i2l, 1), (9, .lastore, 1), (10, .goto 11, 3), (13, .astore 4, 2), (15, .iconst 1, 1), (16, .ireturn, 1), (17, .astore 4, 2), (19, .iconst 2, 1), (20, .ireturn, 1), (21, .iconst 0, 1), (22, .ireturn, 1)]]
def tb_c40 : List (List (Nat × ClassFile.Instr × Nat)) := [[(0, .aload_n 0, 1), (1, .getfield 27, 3), (4, .iload_n 1, 1), (5, .invokevirtual 80, 3), (8, .astore_n 3, 1), (9, .iload_n 2, 1), (10, .iconst 0, 1), (11, .iconst 3, 1), (12, .invokestatic 58, 3), (15, .ifCond .ne 13, 3), (18, .new 51, 3), (21, .dup, 1), (22, .ldc 84, 2), (24, .invokespecial 55, 3), (27, .athrow, 1), (28, .aload_n 3, 1), (29, .getfield 86, 3), (32, .istore 4, 2), (34, .aload_n 3, 1), (35, .iload_n 2, 1), (36, .invokevirtual 92, 3), (39, .aload_n 0, 1), (40, .getfield 36, 3), (43, .invokevirtual 73, 3), (46, .iload 4, 2), (48, .ireturn, 1)]]
def tb_c41 : List (List (Nat × ClassFile.Instr × Nat)) := [[(0, .aload_n 0, 1), (1, .iload_n 1, 1), (2, .invokevirtual 39, 3), (5, .aload_n 0, 1), (6, .getfield 11, 3), (9, .iload_n 1, 1), (10, .aaload, 1), (11, .areturn, 1)]]
def tb_c42 : List (List (Nat × ClassFile.Instr × Nat)) := [[(0, .iload_n 1, 1), (1, .ifCond .lt 11, 3), (4, .iload_n 1, 1), (5, .aload_n 0, 1), (6, .getfield 20, 3), (9, .if_icmp .lt 13, 3), (12, .new 32, 3), (15, .dup, 1), (16, .ldc 34, 2), (18, .invokespecial 36, 3), (21, .athrow, 1), (22, .return_, 1)]]
def tb_c43 : List (List (Nat × ClassFile.Instr × Nat)) := [[(0, .aload_n 3, 1), (1, .iconst 0, 1), (2, .aload_n 0, 1), (3, .iload_n 1, 1), (4, .iload_n 2, 1), (5, .invokevirtual 23, 3), (8, .i2l, 1), (9, .lastore, 1), (10, .goto 11, 3), (13, .astore 4, 2), (15, .iconst 1, 1), (16, .ireturn, 1), (17, .astore 4, 2), (19, .iconst 2, 1), (20, .ireturn, 1), (21, .iconst 0, 1), (22, .ireturn, 1)]]
def tb_c44 : List (List (Nat × ClassFile.Instr × Nat)) := [[(0, .aload_n 0, 1), (1, .getfield 27, 3), (4, .iload_n 1, 1), (5, .invokevirtual 80, 3), (8, .astore_n 3, 1), (9, .iload_n 2, 1), (10, .iconst 0, 1), (11, .bipush 9, 2), (13, .invokestatic 58, 3), (16, .ifCond .ne 13, 3), (19, .new 51, 3), (22, .dup, 1), (23, .ldc 96, 2), (25, .invokespecial 55, 3), (28, .athrow, 1), (29, .aload_n 3, 1), (30, .getfield 98, 3), (33, .istore 4, 2), (35, .aload_n 3, 1), (36, .iload_n 2, 1), (37, .putfield 98, 3), (40, .aload_n 0, 1), (41, .getfield 36, 3), (44, .invokevirtual 73, 3), (47, .iload 4, 2), (49, .ireturn, 1)]]
def tb_c45 : List (List (Nat × ClassFile.Instr × Nat)) := [[(0, .aload_n 3, 1), (1, .iconst 0, 1), (2, .aload_n 0, 1), (3, .iload_n 1, 1), (4, .iload_n 2, 1), (5, .invokevirtual 26, 3), (8, .i2l, 1), (9, .lastore, 1), (10, .goto 11, 3), (13, .astore 4, 2), (15, .iconst 1, 1), (16, .ireturn, 1), (17, .astore 4, 2), (19, .iconst 2, 1), (20, .ireturn, 1), (21, .iconst 0, 1), (22, .ireturn, 1)]]
def tb_c46 : List (List (Nat × ClassFile.Instr × Nat)) := [[(0, .aload_n 0, 1), (1, .getfield 27, 3), (4, .iload_n 1, 1), (5, .invokevirtual 80, 3), (8, .astore_n 3, 1), (9, .iload_n 2, 1), (10, .iconst 0, 1), (11, .ldc 101, 2), (13, .invokestatic 58, 3), (16, .ifCond .ne 13, 3), (19, .new 51, 3), (22, .dup, 1), (23, .ldc 102, 2), (25, .invokespecial 55, 3), (28, .athrow, 1), (29, .aload_n 3, 1), (30, .getfield 104, 3), (33, .istore 4, 2), (35, .aload_n 3, 1), (36, .iload_n 2, 1), (37, .putfield 104, 3), (40, .aload_n 0, 1), (41, .getfield 36, 3), (44, .invokevirtual 73, 3), (47, .iload 4, 2), (49, .ireturn, 1)]]
def tb_c47 : List (List (Nat × ClassFile.Instr × Nat)) := [[(0, .aload_n 2, 1), (1, .iconst 0, 1), (2, .aload_n 0, 1), (3, .iload_n 1, 1), (4, .invokevirtual 29, 3), (7, .i2l, 1), (8, .lastore, 1), (9, .goto 6, 3), (12, .astore_n 3, 1), (13, .iconst 1, 1), (14, .ireturn, 1), (15, .iconst 0, 1), (16, .ireturn, 1)]]
def tb_c48 : List (List (Nat × ClassFile.Instr × Nat)) := [[(0, .aload_n 0, 1), (1, .getfield 27, 3), (4, .iload_n 1, 1), (5, .invokevirtual 80, 3), (8, .getfield 107, 3), (11, .ireturn, 1)]]
def tb_c49 : List (List (Nat × ClassFile.Instr × Nat)) := [[(0, .aload_n 2, 1), (1, .iconst 0, 1), (2, .aload_n 0, 1), (3, .iload_n 1, 1), (4, .invokevirtual 33, 3), (7, .i2l, 1), (8, .lastore, 1), (9, .goto 6, 3), (12, .astore_n 3, 1), (13, .iconst 1, 1), (14, .ireturn, 1), (15, .iconst 0, 1), (16, .ireturn, 1)]]
def tb_c50 : List (List (Nat × ClassFile.Instr × Nat)) := [[(0, .iload_n 1, 1), (1, .iconst 1, 1), (2, .sipush 1000, 3), (5, .invokestatic 58, 3), (8, .ifCond .ne 13, 3), (11, .new 51, 3), (14, .dup, 1), (15, .ldc 110, 2), (17, .invokespecial 55, 3), (20, .athrow, 1), (21, .aload_n 0, 1), (22, .getfield 36, 3), (25, .iload_n 1, 1), (26, .invokevirtual 112, 3), (29, .aload_n 0, 1), (30, .getfield 36, 3), (33, .iconst 0, 1), (34, .invokevirtual 115, 3), (37, .aload_n 0, 1), (38, .getfield 36, 3), (41, .getfield 118, 3), (44, .getfield 122, 3), (47, .ireturn, 1)]]
def tb_c51 : List (List (Nat × ClassFile.Instr × Nat)) := [[(0, .aload_n 0, 1), (1, .iload_n 1, 1), (2, .putfield 56, 3), (5, .aload_n 0, 1), (6, .iconst 0, 1), (7, .putfield 40, 3), (10, .aload_n 0, 1), (11, .iconst 0, 1), (12, .putfield 59, 3), (15, .aload_n 0, 1), (16, .getfield 12, 3), (19, .invokevirtual 53, 3), (22, .aload_n 0, 1), (23, .getfield 18, 3), (26, .invokevirtual 53, 3), (29, .return_, 1)]]
def tb_c52 : List (List (Nat × ClassFile.Instr × Nat)) := [[(0, .iload_n 1, 1), (1, .ifCond .lt 9, 3), (4, .iload_n 1, 1), (5, .bipush 8, 2), (7, .if_icmp .lt 4, 3), (10, .return_, 1), (11, .aload_n 0, 1), (12, .iload_n 1, 1), (13, .invokevirtual 63, 3), (16, .aload_n 0, 1), (17, .getfield 12, 3), (20, .getfield 67, 3), (23, .iload_n 1, 1), (24, .aaload, 1), (25, .astore_n 2, 1), (26, .iconst 0, 1), (27, .istore_n 3, 1), (28, .iload_n 3, 1), (29, .aload_n 0, 1), (30, .getfield 48, 3), (33, .getfield 71, 3), (36, .if_icmp .ge 98, 3), (39, .aload_n 0, 1), (40, .getfield 59, 3), (43, .ifCond .ne 91, 3), (46, .aload_n 0, 1), (47, .getfield 48, 3), (50, .getfield 76, 3), (53, .iload_n 3, 1), (54, .aaload, 1), (55, .astore 4, 2), (57, .aload_n 0, 1), (58, .getfield 12, 3), (61, .iload_n 3, 1), (62, .invokevirtual 80, 3)], [(65, .ifnonnull 7, 3), (68, .iconst 1, 1), (69, .goto 4, 3), (72, .iconst 0, 1), (73, .istore 5, 2), (75, .iconst 0, 1), (76, .istore 6, 2), (78, .iload 6, 2), (80, .bipush 6, 2), (82, .if_icmp .ge 46, 3), (85, .iload 5, 2), (87, .ifCond .eq 41, 3), (90, .aload_n 0, 1), (91, .getfield 59, 3), (94, .ifCond .ne 34, 3), (97, .aload 4, 2), (99, .getfield 84, 3), (102, .iload 6, 2), (104, .baload, 1), (105, .ifCond .eq 17, 3), (108, .aload_n 2, 1), (109, .iload_n 3, 1), (110, .aload 4, 2), (112, .iload 6, 2), (114, .invokevirtual 90, 3), (117, .aload_n 0, 1), (118, .aload_n 2, 1), (119, .invokevirtual 96, 3), (122, .iinc 6 1, 3), (125, .goto (-47), 3)], [(128, .iinc 3 1, 3), (131, .goto (-103), 3), (134, .return_, 1)]]
def tb_c53 : List (List (Nat × ClassFile.Instr × Nat)) := [[(0, .aload_n 0, 1), (1, .getfield 36, 3), (4, .iload_n 1, 1), (5, .bipush 8, 2), (7, .imul, 1), (8, .aaload, 1), (9, .aload_n 0, 1), (10, .getfield 44, 3), (13, .invokevirtual 100, 3), (16, .iconst 1, 1), (17, .istore_n 2, 1), (18, .iload_n 2, 1), (19, .aload_n 0, 1), (20, .getfield 28, 3), (23, .iload_n 1, 1), (24, .invokevirtual 104, 3), (27, .if_icmp .ge 36, 3), (30, .aload_n 0, 1), (31, .getfield 36, 3), (34, .iload_n 1, 1), (35, .bipush 8, 2), (37, .imul, 1), (38, .iload_n 2, 1), (39, .iadd, 1), (40, .aaload, 1), (41, .aload_n 0, 1), (42, .getfield 28, 3), (45, .iload_n 1, 1), (46, .iload_n 2, 1), (47, .invokevirtual 107, 3), (50, .aload_n 0, 1), (51, .getfield 12, 3), (54, .invokevirtual 111, 3), (57, .iinc 2 1, 3), (60, .goto (-42), 3), (63, .return_, 1)]]
def tb_c54 : List (List (Nat × ClassFile.Instr × Nat)) := [[(0, .aload_n 0, 1), (1, .iconst 0, 1), (2, .putfield 7, 3), (5, .aload_n 0, 1), (6, .aload_n 1, 1), (7, .getfield 13, 3), (10, .aload_n 1, 1), (11, .getfield 18, 3), (14, .imul, 1), (15, .putfield 21, 3), (18, .aload_n 0, 1), (19, .iconst 0, 1), (20, .putfield 24, 3), (23, .aload_n 0, 1), (24, .aload_n 1, 1), (25, .getfield 13, 3), (28, .putfield 27, 3), (31, .aload_n 0, 1), (32, .iconst 0, 1), (33, .putfield 30, 3), (36, .aload_n 0, 1), (37, .aload_n 1, 1), (38, .getfield 18, 3), (41, .putfield 33, 3), (44, .return_, 1)]]
def tb_c55 : List (List (Nat × ClassFile.Instr × Nat)) := [[(0, .iload_n 1, 1), (1, .ifCond .lt 18, 3), (4, .iload_n 1, 1), (5, .bipush 8, 2), (7, .if_icmp .ge 12, 3), (10, .aload_n 0, 1), (11, .getfield 16, 3), (14, .iload_n 1, 1), (15, .iaload, 1), (16, .goto 4, 3), (19, .iconst 0, 1), (20, .ireturn, 1)]]
def tb_c56 : List (List (Nat × ClassFile.Instr × Nat)) := [[(0, .iload_n 2, 1), (1, .ifCond .lt 23, 3), (4, .iload_n 2, 1), (5, .aload_n 0, 1), (6, .iload_n 1, 1), (7, .invokevirtual 20, 3), (10, .if_icmp .ge 14, 3), (13, .aload_n 0, 1), (14, .getfield 11, 3), (17, .iload_n 1, 1), (18, .aaload, 1), (19, .iload_n 2, 1), (20, .iaload, 1), (21, .goto 4, 3), (24, .iconst 0, 1), (25, .ireturn, 1)]]
def tb_c57 : List (List (Nat × ClassFile.Instr × Nat)) := [[(0, .aload_n 0, 1), (1, .iload_n 1, 1), (2, .putfield 7, 3), (5, .aload_n 0, 1), (6, .iconst 0, 1), (7, .putfield 21, 3), (10, .iconst 0, 1), (11, .istore_n 3, 1), (12, .iload_n 3, 1), (13, .aload_n 2, 1), (14, .getfield 36, 3), (17, .if_icmp .ge 32, 3), (20, .aload_n 2, 1), (21, .getfield 41, 3), (24, .iload_n 3, 1), (25, .aaload, 1), (26, .getfield 45, 3), (29, .iload_n 1, 1), (30, .if_icmp .ne 13, 3), (33, .aload_n 0, 1), (34, .aload_n 2, 1), (35, .getfield 41, 3), (38, .iload_n 3, 1), (39, .aaload, 1), (40, .invokevirtual 50, 3), (43, .iinc 3 1, 3), (46, .goto (-34), 3), (49, .return_, 1)]]
def tb_c58 : List (List (Nat × ClassFile.Instr × Nat)) := [[(0, .aload_n 0, 1), (1, .getfield 21, 3), (4, .ifCond .ne 7, 3), (7, .iconst 1, 1), (8, .goto 4, 3), (11, .iconst 0, 1), (12, .istore_n 2, 1), (13, .aload_n 0, 1), (14, .dup, 1), (15, .getfield 21, 3), (18, .aload_n 1, 1), (19, .getfield 54, 3), (22, .aload_n 1, 1), (23, .getfield 55, 3), (26, .imul, 1), (27, .iadd, 1), (28, .putfield 21, 3), (31, .aload_n 0, 1), (32, .iload_n 2, 1), (33, .ifCond .eq 10, 3), (36, .aload_n 1, 1), (37, .getfield 56, 3), (40, .goto 14, 3), (43, .aload_n 0, 1), (44, .getfield 24, 3), (47, .aload_n 1, 1), (48, .getfield 56, 3), (51, .invokestatic 59, 3), (54, .putfield 24, 3), (57, .aload_n 0, 1), (58, .iload_n 2, 1), (59, .ifCond .eq 10, 3), (62, .aload_n 1, 1), (63, .getfield 65, 3)], [(66, .goto 14, 3), (69, .aload_n 0, 1), (70, .getfield 27, 3), (73, .aload_n 1, 1), (74, .getfield 65, 3), (77, .invokestatic 66, 3), (80, .putfield 27, 3), (83, .aload_n 0, 1), (84, .iload_n 2, 1), (85, .ifCond .eq 10, 3), (88, .aload_n 1, 1), (89, .getfield 69, 3), (92, .goto 14, 3), (95, .aload_n 0, 1), (96, .getfield 30, 3), (99, .aload_n 1, 1), (100, .getfield 69, 3), (103, .invokestatic 59, 3), (106, .putfield 30, 3), (109, .aload_n 0, 1), (110, .iload_n 2, 1), (111, .ifCond .eq 10, 3), (114, .aload_n 1, 1), (115, .getfield 72, 3), (118, .goto 14, 3), (121, .aload_n 0, 1), (122, .getfield 33, 3), (125, .aload_n 1, 1), (126, .getfield 72, 3)], [(129, .invokestatic 66, 3), (132, .putfield 33, 3), (135, .return_, 1)]]
def tb_c59 : List (List (Nat × ClassFile.Instr × Nat)) := [[(0, .iconst 0, 1), (1, .istore_n 2, 1), (2, .iload_n 2, 1), (3, .aload_n 0, 1), (4, .getfield 20, 3), (7, .if_icmp .ge 29, 3), (10, .aload_n 0, 1), (11, .getfield 11, 3), (14, .iload_n 2, 1), (15, .aaload, 1), (16, .getfield 35, 3), (19, .iload_n 1, 1), (20, .if_icmp .ne 10, 3), (23, .aload_n 0, 1), (24, .getfield 11, 3), (27, .iload_n 2, 1), (28, .aaload, 1), (29, .areturn, 1), (30, .iinc 2 1, 3), (33, .goto (-31), 3), (36, .aconst_null, 1), (37, .areturn, 1)]]
def tb_c60 : List (List (Nat × ClassFile.Instr × Nat)) := [[(0, .aload_n 0, 1), (1, .iload_n 1, 1), (2, .putfield 13, 3), (5, .aload_n 0, 1), (6, .iload_n 3, 1), (7, .putfield 16, 3), (10, .aload_n 0, 1), (11, .aload_n 2, 1), (12, .iload_n 3, 1), (13, .invokevirtual 19, 3), (16, .putfield 25, 3), (19, .aload_n 0, 1), (20, .aload_n 2, 1), (21, .iload_n 3, 1), (22, .invokevirtual 28, 3), (25, .putfield 31, 3), (28, .aload_n 0, 1), (29, .aload_n 2, 1), (30, .iload_n 3, 1), (31, .invokevirtual 34, 3), (34, .putfield 37, 3), (37, .aload_n 0, 1), (38, .aload_n 2, 1), (39, .getfield 40, 3), (42, .putfield 43, 3), (45, .aload_n 0, 1), (46, .aload_n 2, 1), (47, .getfield 44, 3), (50, .putfield 47, 3), (53, .aload_n 0, 1), (54, .aload_n 2, 1), (55, .getfield 48, 3), (58, .putfield 51, 3), (61, .aload_n 0, 1), (62, .iconst 0, 1), (63, .putfield 52, 3)], [(66, .return_, 1)]]
def tb_c61 : List (List (Nat × ClassFile.Instr × Nat)) := [[(0, .aload_n 0, 1), (1, .getfield 28, 3), (4, .aload_n 1, 1), (5, .getfield 114, 3), (8, .invokevirtual 104, 3), (11, .istore_n 2, 1), (12, .iconst 0, 1), (13, .istore_n 3, 1), (14, .iload_n 3, 1), (15, .iload_n 2, 1), (16, .if_icmp .ge 93, 3), (19, .aload_n 0, 1), (20, .getfield 59, 3), (23, .ifCond .ne 86, 3), (26, .aload_n 0, 1), (27, .getfield 36, 3), (30, .aload_n 1, 1), (31, .getfield 114, 3), (34, .bipush 8, 2), (36, .imul, 1), (37, .iload_n 3, 1), (38, .iadd, 1), (39, .aaload, 1), (40, .astore 4, 2), (42, .aload_n 1, 1), (43, .aload 4, 2), (45, .getfield 117, 3), (48, .invokevirtual 120, 3), (51, .aload_n 1, 1), (52, .getfield 123, 3), (55, .aload_n 0, 1), (56, .getfield 12, 3), (59, .invokevirtual 124, 3), (62, .if_icmp .lt 41, 3)], [(65, .aload_n 1, 1), (66, .getfield 128, 3), (69, .aload_n 0, 1), (70, .getfield 44, 3), (73, .getfield 131, 3), (76, .if_icmp .gt 27, 3), (79, .aload_n 1, 1), (80, .getfield 136, 3), (83, .aload_n 1, 1), (84, .getfield 139, 3), (87, .imul, 1), (88, .aload 4, 2), (90, .getfield 142, 3), (93, .if_icmp .gt 10, 3), (96, .aload_n 0, 1), (97, .aload_n 1, 1), (98, .aload 4, 2), (100, .invokevirtual 145, 3), (103, .iinc 3 1, 3), (106, .goto (-92), 3), (109, .return_, 1)]]
def tb_c62 : List (List (Nat × ClassFile.Instr × Nat)) := [[(0, .aload_n 0, 1), (1, .iload_n 1, 1), (2, .putfield 58, 3), (5, .aload_n 0, 1), (6, .iload_n 1, 1), (7, .aload_n 0, 1), (8, .getfield 31, 3), (11, .iadd, 1), (12, .putfield 67, 3), (15, .return_, 1)]]
def tb_c63 : List (List (Nat × ClassFile.Instr × Nat)) := [[(0, .aload_n 0, 1), (1, .getfield 20, 3), (4, .ifCond .le 20, 3), (7, .aload_n 0, 1), (8, .getfield 11, 3), (11, .aload_n 0, 1), (12, .getfield 20, 3), (15, .iconst 1, 1), (16, .isub, 1), (17, .aaload, 1), (18, .getfield 38, 3), (21, .goto 4, 3), (24, .iconst 0, 1), (25, .ireturn, 1)]]
def tb_c64 : List (List (Nat × ClassFile.Instr × Nat)) := [[(0, .aload_n 2, 1), (1, .getfield 149, 3), (4, .aload_n 0, 1), (5, .getfield 12, 3), (8, .aload_n 2, 1), (9, .getfield 117, 3), (12, .invokevirtual 152, 3), (15, .invokestatic 155, 3), (18, .istore_n 3, 1), (19, .iconst 0, 1), (20, .istore 4, 2), (22, .iload 4, 2), (24, .aload_n 0, 1), (25, .getfield 31, 3), (28, .aload_n 1, 1), (29, .getfield 114, 3), (32, .invokevirtual 104, 3), (35, .if_icmp .ge 151, 3), (38, .aload_n 0, 1), (39, .getfield 59, 3), (42, .ifCond .ne 144, 3), (45, .aload_n 1, 1), (46, .aload_n 0, 1), (47, .getfield 31, 3), (50, .aload_n 1, 1), (51, .getfield 114, 3), (54, .iload 4, 2), (56, .invokevirtual 107, 3), (59, .invokevirtual 160, 3), (62, .aload_n 1, 1), (63, .getfield 163, 3)], [(66, .iload_n 3, 1), (67, .if_icmp .lt 18, 3), (70, .aload_n 1, 1), (71, .getfield 166, 3), (74, .aload_n 2, 1), (75, .getfield 169, 3), (78, .if_icmp .gt 7, 3), (81, .iconst 1, 1), (82, .goto 4, 3), (85, .iconst 0, 1), (86, .istore 5, 2), (88, .iconst 0, 1), (89, .istore 6, 2), (91, .iload 6, 2), (93, .aload_n 0, 1), (94, .getfield 24, 3), (97, .aload_n 1, 1), (98, .getfield 114, 3), (101, .invokevirtual 104, 3), (104, .if_icmp .ge 76, 3), (107, .iload 5, 2), (109, .ifCond .eq 71, 3), (112, .aload_n 0, 1), (113, .getfield 59, 3), (116, .ifCond .ne 64, 3), (119, .aload_n 1, 1), (120, .aload_n 0, 1), (121, .getfield 24, 3), (124, .aload_n 1, 1), (125, .getfield 114, 3)], [(128, .iload 6, 2), (130, .invokevirtual 107, 3), (133, .invokevirtual 170, 3), (136, .aload_n 1, 1), (137, .getfield 173, 3), (140, .aload_n 2, 1), (141, .getfield 176, 3), (144, .if_icmp .lt 30, 3), (147, .aload_n 1, 1), (148, .getfield 179, 3), (151, .aload_n 2, 1), (152, .getfield 182, 3), (155, .if_icmp .gt 19, 3), (158, .aload_n 0, 1), (159, .getfield 12, 3), (162, .aload_n 1, 1), (163, .invokevirtual 183, 3), (166, .ifCond .eq 8, 3), (169, .aload_n 0, 1), (170, .aload_n 1, 1), (171, .invokevirtual 187, 3), (174, .iinc 6 1, 3), (177, .goto (-86), 3), (180, .iinc 4 1, 3), (183, .goto (-161), 3), (186, .return_, 1)]]
def tb_c65 : List (List (Nat × ClassFile.Instr × Nat)) := [[(0, .aload_n 0, 1), (1, .getfield 20, 3), (4, .ifCond .le 38, 3), (7, .aload_n 0, 1), (8, .getfield 11, 3), (11, .aload_n 0, 1), (12, .getfield 20, 3), (15, .iconst 1, 1), (16, .isub, 1), (17, .aaload, 1), (18, .getfield 38, 3), (21, .iload_n 1, 1), (22, .if_icmp .ne 20, 3), (25, .aload_n 0, 1), (26, .getfield 11, 3), (29, .aload_n 0, 1), (30, .getfield 20, 3), (33, .iconst 1, 1), (34, .isub, 1), (35, .aaload, 1), (36, .getfield 41, 3), (39, .goto 4, 3), (42, .iconst 0, 1), (43, .ireturn, 1)]]
def tb_c66 : List (List (Nat × ClassFile.Instr × Nat)) := [[(0, .aload_n 0, 1), (1, .iload_n 1, 1), (2, .putfield 61, 3), (5, .aload_n 0, 1), (6, .iload_n 1, 1), (7, .aload_n 0, 1), (8, .getfield 37, 3), (11, .iadd, 1), (12, .putfield 70, 3), (15, .return_, 1)]]
def tb_c67 : List (List (Nat × ClassFile.Instr × Nat)) := [[(0, .aload_n 0, 1), (1, .iload_n 1, 1), (2, .putfield 55, 3), (5, .aload_n 0, 1), (6, .iload_n 1, 1), (7, .aload_n 0, 1), (8, .getfield 25, 3), (11, .iadd, 1), (12, .putfield 64, 3), (15, .return_, 1)]]
def tb_c68 : List (List (Nat × ClassFile.Instr × Nat)) := [[(0, .aload_n 0, 1), (1, .aload_n 1, 1), (2, .invokevirtual 44, 3), (5, .ifCond .eq 39, 3), (8, .aload_n 0, 1), (9, .aload_n 1, 1), (10, .invokevirtual 48, 3), (13, .ifCond .eq 31, 3), (16, .aload_n 0, 1), (17, .aload_n 1, 1), (18, .invokevirtual 51, 3), (21, .ifCond .eq 23, 3), (24, .aload_n 0, 1), (25, .aload_n 1, 1), (26, .invokevirtual 54, 3), (29, .ifCond .eq 15, 3), (32, .aload_n 0, 1), (33, .aload_n 1, 1), (34, .invokevirtual 57, 3), (37, .ifCond .eq 7, 3), (40, .iconst 1, 1), (41, .goto 4, 3), (44, .iconst 0, 1), (45, .ireturn, 1)]]
def tb_c69 : List (List (Nat × ClassFile.Instr × Nat)) := [[(0, .aload_n 0, 1), (1, .getfield 20, 3), (4, .ifCond .eq 21, 3), (7, .aload_n 1, 1), (8, .aload_n 0, 1), (9, .getfield 11, 3), (12, .aload_n 0, 1), (13, .getfield 20, 3), (16, .iconst 1, 1), (17, .isub, 1), (18, .aaload, 1), (19, .invokevirtual 60, 3), (22, .ifCond .eq 7, 3), (25, .iconst 1, 1), (26, .goto 4, 3), (29, .iconst 0, 1), (30, .ireturn, 1)]]
def tb_c70 : List (List (Nat × ClassFile.Instr × Nat)) := [[(0, .aload_n 0, 1), (1, .getfield 58, 3), (4, .aload_n 1, 1), (5, .getfield 58, 3), (8, .if_icmp .eq 20, 3), (11, .aload_n 0, 1), (12, .getfield 58, 3), (15, .aload_n 1, 1), (16, .getfield 58, 3), (19, .if_icmp .le 7, 3), (22, .iconst 1, 1), (23, .goto 4, 3), (26, .iconst 0, 1), (27, .ireturn, 1), (28, .aload_n 0, 1), (29, .getfield 61, 3), (32, .aload_n 1, 1), (33, .getfield 61, 3), (36, .if_icmp .eq 22, 3), (39, .aload_n 0, 1), (40, .getfield 61, 3), (43, .aload_n 1, 1), (44, .getfield 61, 3), (47, .if_icmp .le 7, 3), (50, .iconst 1, 1), (51, .goto 23, 3), (54, .iconst 0, 1), (55, .goto 19, 3), (58, .aload_n 0, 1), (59, .getfield 55, 3), (62, .aload_n 1, 1), (63, .getfield 55, 3)], [(66, .if_icmp .le 7, 3), (69, .iconst 1, 1), (70, .goto 4, 3), (73, .iconst 0, 1), (74, .ireturn, 1)]]
def tb_c71 : List (List (Nat × ClassFile.Instr × Nat)) := [[(0, .aload_n 1, 1), (1, .getfield 38, 3), (4, .ifCond .ne 5, 3), (7, .iconst 1, 1), (8, .ireturn, 1), (9, .iconst 0, 1), (10, .istore_n 2, 1), (11, .iconst 0, 1), (12, .istore_n 3, 1), (13, .iload_n 3, 1), (14, .aload_n 0, 1), (15, .getfield 20, 3), (18, .if_icmp .ge 22, 3), (21, .iload_n 2, 1), (22, .aload_n 1, 1), (23, .aload_n 0, 1), (24, .getfield 11, 3), (27, .iload_n 3, 1), (28, .aaload, 1), (29, .invokevirtual 66, 3), (32, .iadd, 1), (33, .istore_n 2, 1), (34, .iinc 3 1, 3), (37, .goto (-24), 3), (40, .iload_n 2, 1), (41, .aload_n 1, 1), (42, .getfield 70, 3), (45, .aload_n 1, 1), (46, .getfield 73, 3), (49, .imul, 1), (50, .if_icmp .ne 7, 3), (53, .iconst 1, 1), (54, .goto 4, 3), (57, .iconst 0, 1), (58, .ireturn, 1)]]
def tb_c72 : List (List (Nat × ClassFile.Instr × Nat)) := [[(0, .aload_n 0, 1), (1, .getfield 58, 3), (4, .aload_n 1, 1), (5, .getfield 67, 3), (8, .if_icmp .eq 5, 3), (11, .iconst 0, 1), (12, .ireturn, 1), (13, .aload_n 0, 1), (14, .getfield 64, 3), (17, .aload_n 1, 1), (18, .getfield 64, 3), (21, .invokestatic 73, 3), (24, .aload_n 0, 1), (25, .getfield 55, 3), (28, .aload_n 1, 1), (29, .getfield 55, 3), (32, .invokestatic 79, 3), (35, .isub, 1), (36, .istore_n 2, 1), (37, .aload_n 0, 1), (38, .getfield 70, 3), (41, .aload_n 1, 1), (42, .getfield 70, 3), (45, .invokestatic 73, 3), (48, .aload_n 0, 1), (49, .getfield 61, 3), (52, .aload_n 1, 1), (53, .getfield 61, 3), (56, .invokestatic 79, 3), (59, .isub, 1), (60, .istore_n 3, 1), (61, .iload_n 2, 1), (62, .ifCond .le 13, 3)], [(65, .iload_n 3, 1), (66, .ifCond .le 9, 3), (69, .iload_n 2, 1), (70, .iload_n 3, 1), (71, .imul, 1), (72, .goto 4, 3), (75, .iconst 0, 1), (76, .ireturn, 1)]]
def tb_c73 : List (List (Nat × ClassFile.Instr × Nat)) := [[(0, .iconst 0, 1), (1, .istore_n 2, 1), (2, .iload_n 2, 1), (3, .aload_n 0, 1), (4, .getfield 20, 3), (7, .if_icmp .ge 24, 3), (10, .aload_n 1, 1), (11, .aload_n 0, 1), (12, .getfield 11, 3), (15, .iload_n 2, 1), (16, .aaload, 1), (17, .invokevirtual 63, 3), (20, .ifCond .eq 5, 3), (23, .iconst 0, 1), (24, .ireturn, 1), (25, .iinc 2 1, 3), (28, .goto (-26), 3), (31, .iconst 1, 1), (32, .ireturn, 1)]]
def tb_c74 : List (List (Nat × ClassFile.Instr × Nat)) := [[(0, .aload_n 0, 1), (1, .getfield 55, 3), (4, .aload_n 1, 1), (5, .getfield 64, 3), (8, .if_icmp .ge 62, 3), (11, .aload_n 1, 1), (12, .getfield 55, 3), (15, .aload_n 0, 1), (16, .getfield 64, 3), (19, .if_icmp .ge 51, 3), (22, .aload_n 0, 1), (23, .getfield 61, 3), (26, .aload_n 1, 1), (27, .getfield 70, 3), (30, .if_icmp .ge 40, 3), (33, .aload_n 1, 1), (34, .getfield 61, 3), (37, .aload_n 0, 1), (38, .getfield 70, 3), (41, .if_icmp .ge 29, 3), (44, .aload_n 0, 1), (45, .getfield 58, 3), (48, .aload_n 1, 1), (49, .getfield 67, 3), (52, .if_icmp .ge 18, 3), (55, .aload_n 1, 1), (56, .getfield 58, 3), (59, .aload_n 0, 1), (60, .getfield 67, 3), (63, .if_icmp .ge 7, 3)], [(66, .iconst 1, 1), (67, .goto 4, 3), (70, .iconst 0, 1), (71, .ireturn, 1)]]
def tb_c75 : List (List (Nat × ClassFile.Instr × Nat)) := [[(0, .iconst 0, 1), (1, .istore_n 2, 1), (2, .iload_n 2, 1), (3, .aload_n 0, 1), (4, .getfield 20, 3), (7, .if_icmp .ge 42, 3), (10, .aload_n 0, 1), (11, .getfield 11, 3), (14, .iload_n 2, 1), (15, .aaload, 1), (16, .astore_n 3, 1), (17, .aload_n 3, 1), (18, .getfield 76, 3), (21, .aload_n 1, 1), (22, .getfield 79, 3), (25, .iadd, 1), (26, .aload_n 3, 1), (27, .getfield 82, 3), (30, .if_icmp .le 13, 3), (33, .aload_n 1, 1), (34, .aload_n 3, 1), (35, .invokevirtual 85, 3), (38, .ifCond .eq 5, 3), (41, .iconst 0, 1), (42, .ireturn, 1), (43, .iinc 2 1, 3), (46, .goto (-44), 3), (49, .iconst 1, 1), (50, .ireturn, 1)]]
def tb_c76 : List (List (Nat × ClassFile.Instr × Nat)) := [[(0, .aload_n 0, 1), (1, .getfield 58, 3), (4, .aload_n 1, 1), (5, .getfield 67, 3), (8, .if_icmp .lt 51, 3), (11, .aload_n 0, 1), (12, .getfield 55, 3), (15, .aload_n 1, 1), (16, .getfield 64, 3), (19, .if_icmp .ge 40, 3), (22, .aload_n 1, 1), (23, .getfield 55, 3), (26, .aload_n 0, 1), (27, .getfield 64, 3), (30, .if_icmp .ge 29, 3), (33, .aload_n 0, 1), (34, .getfield 61, 3), (37, .aload_n 1, 1), (38, .getfield 70, 3), (41, .if_icmp .ge 18, 3), (44, .aload_n 1, 1), (45, .getfield 61, 3), (48, .aload_n 0, 1), (49, .getfield 70, 3), (52, .if_icmp .ge 7, 3), (55, .iconst 1, 1), (56, .goto 4, 3), (59, .iconst 0, 1), (60, .ireturn, 1)]]
def tb_c77 : List (List (Nat × ClassFile.Instr × Nat)) := [[(0, .iconst 0, 1), (1, .istore_n 2, 1), (2, .iload_n 2, 1), (3, .aload_n 0, 1), (4, .getfield 20, 3), (7, .if_icmp .ge 37, 3), (10, .aload_n 1, 1), (11, .aload_n 0, 1), (12, .getfield 11, 3), (15, .iload_n 2, 1), (16, .aaload, 1), (17, .invokevirtual 88, 3), (20, .ifCond .ne 16, 3), (23, .aload_n 0, 1), (24, .getfield 11, 3), (27, .iload_n 2, 1), (28, .aaload, 1), (29, .aload_n 1, 1), (30, .invokevirtual 88, 3), (33, .ifCond .eq 5, 3), (36, .iconst 0, 1), (37, .ireturn, 1), (38, .iinc 2 1, 3), (41, .goto (-39), 3), (44, .iconst 1, 1), (45, .ireturn, 1)]]
def tb_c78 : List (List (Nat × ClassFile.Instr × Nat)) := [[(0, .aload_n 0, 1), (1, .getfield 47, 3), (4, .aload_n 1, 1), (5, .getfield 47, 3), (8, .if_icmp .le 62, 3), (11, .aload_n 0, 1), (12, .getfield 61, 3), (15, .aload_n 1, 1), (16, .getfield 70, 3), (19, .if_icmp .lt 51, 3), (22, .aload_n 0, 1), (23, .getfield 55, 3), (26, .aload_n 1, 1), (27, .getfield 64, 3), (30, .if_icmp .ge 40, 3), (33, .aload_n 1, 1), (34, .getfield 55, 3), (37, .aload_n 0, 1), (38, .getfield 64, 3), (41, .if_icmp .ge 29, 3), (44, .aload_n 0, 1), (45, .getfield 58, 3), (48, .aload_n 1, 1), (49, .getfield 67, 3), (52, .if_icmp .ge 18, 3), (55, .aload_n 1, 1), (56, .getfield 58, 3), (59, .aload_n 0, 1), (60, .getfield 67, 3), (63, .if_icmp .ge 7, 3)], [(66, .iconst 1, 1), (67, .goto 4, 3), (70, .iconst 0, 1), (71, .ireturn, 1)]]
def tb_c79 : List (List (Nat × ClassFile.Instr × Nat)) := [[(0, .aload_n 0, 1), (1, .getfield 40, 3), (4, .aload_n 0, 1), (5, .getfield 56, 3), (8, .if_icmp .lt 9, 3), (11, .aload_n 0, 1), (12, .iconst 1, 1), (13, .putfield 59, 3), (16, .return_, 1), (17, .aload_n 0, 1), (18, .dup, 1), (19, .getfield 40, 3), (22, .iconst 1, 1), (23, .iadd, 1), (24, .putfield 40, 3), (27, .aload_n 0, 1), (28, .getfield 12, 3), (31, .invokevirtual 190, 3), (34, .aload_n 0, 1), (35, .getfield 24, 3), (38, .aload_n 1, 1), (39, .getfield 114, 3), (42, .aload_n 1, 1), (43, .getfield 179, 3), (46, .invokevirtual 193, 3), (49, .aload_n 0, 1), (50, .getfield 28, 3), (53, .aload_n 1, 1), (54, .getfield 114, 3), (57, .aload_n 1, 1), (58, .getfield 128, 3), (61, .invokevirtual 193, 3)], [(64, .aload_n 0, 1), (65, .getfield 31, 3), (68, .aload_n 1, 1), (69, .getfield 114, 3), (72, .aload_n 1, 1), (73, .getfield 166, 3), (76, .invokevirtual 193, 3), (79, .aload_n 0, 1), (80, .getfield 12, 3), (83, .aload_n 0, 1), (84, .getfield 18, 3), (87, .invokevirtual 197, 3), (90, .ifCond .eq 14, 3), (93, .aload_n 0, 1), (94, .getfield 18, 3), (97, .aload_n 0, 1), (98, .getfield 12, 3), (101, .invokevirtual 201, 3), (104, .aload_n 0, 1), (105, .aload_n 1, 1), (106, .getfield 114, 3), (109, .iconst 1, 1), (110, .iadd, 1), (111, .invokevirtual 205, 3), (114, .aload_n 0, 1), (115, .getfield 12, 3), (118, .invokevirtual 208, 3), (121, .return_, 1)]]
def tb_c80 : List (List (Nat × ClassFile.Instr × Nat)) := [[(0, .aload_n 0, 1), (1, .getfield 20, 3), (4, .bipush 8, 2), (6, .if_icmp .ge 27, 3), (9, .aload_n 0, 1), (10, .aload_n 0, 1), (11, .getfield 11, 3), (14, .aload_n 0, 1), (15, .getfield 20, 3), (18, .aaload, 1), (19, .iconst 1, 1), (20, .invokevirtual 91, 3), (23, .aload_n 0, 1), (24, .dup, 1), (25, .getfield 20, 3), (28, .iconst 1, 1), (29, .iadd, 1), (30, .putfield 20, 3), (33, .return_, 1)]]
def tb_c81 : List (List (Nat × ClassFile.Instr × Nat)) := [[(0, .aload_n 0, 1), (1, .dup, 1), (2, .getfield 24, 3), (5, .iload_n 2, 1), (6, .aload_n 1, 1), (7, .getfield 70, 3), (10, .imul, 1), (11, .aload_n 1, 1), (12, .getfield 95, 3), (15, .imul, 1), (16, .aload_n 1, 1), (17, .getfield 73, 3), (20, .imul, 1), (21, .iadd, 1), (22, .putfield 24, 3), (25, .aload_n 0, 1), (26, .dup, 1), (27, .getfield 27, 3), (30, .iload_n 2, 1), (31, .aload_n 1, 1), (32, .getfield 79, 3), (35, .imul, 1), (36, .iconst 2, 1), (37, .aload_n 1, 1), (38, .getfield 38, 3), (41, .imul, 1), (42, .aload_n 1, 1), (43, .getfield 95, 3), (46, .iadd, 1), (47, .imul, 1), (48, .i2l, 1), (49, .ladd, 1), (50, .putfield 27, 3), (53, .iconst 0, 1), (54, .istore_n 3, 1), (55, .iload_n 3, 1), (56, .aload_n 0, 1), (57, .getfield 20, 3), (60, .if_icmp .ge 42, 3), (63, .aload_n 1, 1)], [(64, .aload_n 0, 1), (65, .getfield 11, 3), (68, .iload_n 3, 1), (69, .aaload, 1), (70, .invokevirtual 85, 3), (73, .ifCond .eq 23, 3), (76, .aload_n 0, 1), (77, .getfield 11, 3), (80, .iload_n 3, 1), (81, .aaload, 1), (82, .dup, 1), (83, .getfield 76, 3), (86, .iload_n 2, 1), (87, .aload_n 1, 1), (88, .getfield 79, 3), (91, .imul, 1), (92, .iadd, 1), (93, .putfield 76, 3), (96, .iinc 3 1, 3), (99, .goto (-44), 3), (102, .return_, 1)]]
def tb_c82 : List (List (Nat × ClassFile.Instr × Nat)) := [[(0, .iload_n 1, 1), (1, .ifCond .lt 9, 3), (4, .iload_n 1, 1), (5, .bipush 7, 2), (7, .if_icmp .lt 4, 3), (10, .return_, 1), (11, .aload_n 0, 1), (12, .getfield 11, 3), (15, .iload_n 1, 1), (16, .aaload, 1), (17, .astore_n 3, 1), (18, .aload_n 0, 1), (19, .getfield 11, 3), (22, .iload_n 1, 1), (23, .iconst 1, 1), (24, .iadd, 1), (25, .aaload, 1), (26, .astore 4, 2), (28, .aload_n 0, 1), (29, .getfield 16, 3), (32, .iload_n 1, 1), (33, .iaload, 1), (34, .bipush 7, 2), (36, .invokestatic 24, 3), (39, .istore 5, 2), (41, .iconst 0, 1), (42, .istore 6, 2), (44, .iload 6, 2), (46, .iload 5, 2), (48, .if_icmp .ge 26, 3), (51, .aload_n 3, 1), (52, .iload 6, 2), (54, .iaload, 1), (55, .iload_n 2, 1), (56, .if_icmp .ge 18, 3), (59, .aload 4, 2), (61, .iload 6, 2), (63, .aload_n 3, 1)], [(64, .iload 6, 2), (66, .iaload, 1), (67, .iastore, 1), (68, .iinc 6 1, 3), (71, .goto (-27), 3), (74, .iload 6, 2), (76, .iload 5, 2), (78, .if_icmp .ge 15, 3), (81, .aload_n 3, 1), (82, .iload 6, 2), (84, .iaload, 1), (85, .iload_n 2, 1), (86, .if_icmp .ne 7, 3), (89, .iconst 0, 1), (90, .goto 4, 3), (93, .iconst 1, 1), (94, .istore 7, 2), (96, .aload 4, 2), (98, .iload 6, 2), (100, .iload_n 2, 1), (101, .iastore, 1), (102, .iload 6, 2), (104, .istore 8, 2), (106, .iload 8, 2), (108, .iload 5, 2), (110, .if_icmp .ge 21, 3), (113, .aload 4, 2), (115, .iload 8, 2), (117, .iload 7, 2), (119, .iadd, 1), (120, .aload_n 3, 1), (121, .iload 8, 2), (123, .iaload, 1), (124, .iastore, 1), (125, .iinc 8 1, 3)], [(128, .goto (-22), 3), (131, .aload_n 0, 1), (132, .getfield 16, 3), (135, .iload_n 1, 1), (136, .iconst 1, 1), (137, .iadd, 1), (138, .iload 5, 2), (140, .iload 7, 2), (142, .iadd, 1), (143, .iastore, 1), (144, .return_, 1)]]
def tb_c83 : List (List (Nat × ClassFile.Instr × Nat)) := [[(0, .aload_n 0, 1), (1, .getfield 24, 3), (4, .aload_n 1, 1), (5, .getfield 24, 3), (8, .if_icmp .eq 22, 3), (11, .aload_n 0, 1), (12, .getfield 24, 3), (15, .aload_n 1, 1), (16, .getfield 24, 3), (19, .if_icmp .le 7, 3), (22, .iconst 1, 1), (23, .goto 24, 3), (26, .iconst 0, 1), (27, .goto 20, 3), (30, .aload_n 0, 1), (31, .getfield 27, 3), (34, .aload_n 1, 1), (35, .getfield 27, 3), (38, .lcmp, 1), (39, .ifCond .ge 7, 3), (42, .iconst 1, 1), (43, .goto 4, 3), (46, .iconst 0, 1), (47, .ireturn, 1)]]
def tb_c84 : List (List (Nat × ClassFile.Instr × Nat)) := [[(0, .iconst 0, 1), (1, .istore_n 2, 1), (2, .iload_n 2, 1), (3, .aload_n 1, 1), (4, .getfield 20, 3), (7, .if_icmp .ge 24, 3), (10, .aload_n 0, 1), (11, .getfield 11, 3), (14, .iload_n 2, 1), (15, .aaload, 1), (16, .aload_n 1, 1), (17, .getfield 11, 3), (20, .iload_n 2, 1), (21, .aaload, 1), (22, .invokevirtual 31, 3), (25, .iinc 2 1, 3), (28, .goto (-26), 3), (31, .aload_n 0, 1), (32, .aload_n 1, 1), (33, .getfield 20, 3), (36, .putfield 20, 3), (39, .aload_n 0, 1), (40, .aload_n 1, 1), (41, .getfield 24, 3), (44, .putfield 24, 3), (47, .aload_n 0, 1), (48, .aload_n 1, 1), (49, .getfield 27, 3), (52, .putfield 27, 3), (55, .return_, 1)]]
def tb_c85 : List (List (Nat × ClassFile.Instr × Nat)) := [[(0, .aload_n 0, 1), (1, .aload_n 1, 1), (2, .getfield 13, 3), (5, .putfield 13, 3), (8, .aload_n 0, 1), (9, .aload_n 1, 1), (10, .getfield 16, 3), (13, .putfield 16, 3), (16, .aload_n 0, 1), (17, .aload_n 1, 1), (18, .getfield 55, 3), (21, .putfield 55, 3), (24, .aload_n 0, 1), (25, .aload_n 1, 1), (26, .getfield 58, 3), (29, .putfield 58, 3), (32, .aload_n 0, 1), (33, .aload_n 1, 1), (34, .getfield 61, 3), (37, .putfield 61, 3), (40, .aload_n 0, 1), (41, .aload_n 1, 1), (42, .getfield 64, 3), (45, .putfield 64, 3), (48, .aload_n 0, 1), (49, .aload_n 1, 1), (50, .getfield 67, 3), (53, .putfield 67, 3), (56, .aload_n 0, 1), (57, .aload_n 1, 1), (58, .getfield 70, 3), (61, .putfield 70, 3)], [(64, .aload_n 0, 1), (65, .aload_n 1, 1), (66, .getfield 25, 3), (69, .putfield 25, 3), (72, .aload_n 0, 1), (73, .aload_n 1, 1), (74, .getfield 31, 3), (77, .putfield 31, 3), (80, .aload_n 0, 1), (81, .aload_n 1, 1), (82, .getfield 37, 3), (85, .putfield 37, 3), (88, .aload_n 0, 1), (89, .aload_n 1, 1), (90, .getfield 43, 3), (93, .putfield 43, 3), (96, .aload_n 0, 1), (97, .aload_n 1, 1), (98, .getfield 47, 3), (101, .putfield 47, 3), (104, .aload_n 0, 1), (105, .aload_n 1, 1), (106, .getfield 51, 3), (109, .putfield 51, 3), (112, .aload_n 0, 1), (113, .aload_n 1, 1), (114, .getfield 52, 3), (117, .putfield 52, 3), (120, .return_, 1)]]
def tb_c86 : List (List (Nat × ClassFile.Instr × Nat)) := [[(0, .aload_n 0, 1), (1, .getfield 20, 3), (4, .ifCond .le 27, 3), (7, .aload_n 0, 1), (8, .dup, 1), (9, .getfield 20, 3), (12, .iconst 1, 1), (13, .isub, 1), (14, .putfield 20, 3), (17, .aload_n 0, 1), (18, .aload_n 0, 1), (19, .getfield 11, 3), (22, .aload_n 0, 1), (23, .getfield 20, 3), (26, .aaload, 1), (27, .iconst (-1), 1), (28, .invokevirtual 91, 3), (31, .return_, 1)]]
def tb_c87 : List (List (Nat × ClassFile.Instr × Nat)) := [[(0, .aload_n 3, 1), (1, .iconst 0, 1), (2, .aload_n 0, 1), (3, .iload_n 1, 1), (4, .iload_n 2, 1), (5, .invokevirtual 36, 3), (8, .i2l, 1), (9, .lastore, 1), (10, .goto 11, 3), (13, .astore 4, 2), (15, .iconst 1, 1), (16, .ireturn, 1), (17, .astore 4, 2), (19, .iconst 2, 1), (20, .ireturn, 1), (21, .iconst 0, 1), (22, .ireturn, 1)]]
def tb_c88 : List (List (Nat × ClassFile.Instr × Nat)) := [[(0, .aload_n 0, 1), (1, .getfield 27, 3), (4, .iload_n 1, 1), (5, .invokevirtual 144, 3), (8, .iload_n 2, 1), (9, .iconst 0, 1), (10, .iconst 5, 1), (11, .invokestatic 58, 3), (14, .ifCond .ne 13, 3), (17, .new 51, 3), (20, .dup, 1), (21, .ldc 147, 2), (23, .invokespecial 55, 3), (26, .athrow, 1), (27, .aload_n 0, 1), (28, .getfield 36, 3), (31, .getfield 118, 3), (34, .iload_n 1, 1), (35, .invokevirtual 149, 3), (38, .astore_n 3, 1), (39, .aload_n 3, 1), (40, .ifnonnull 7, 3), (43, .iconst (-1), 1), (44, .goto 8, 3), (47, .aload_n 3, 1), (48, .iload_n 2, 1), (49, .invokevirtual 153, 3), (52, .ireturn, 1)]]
def tb_c89 : List (List (Nat × ClassFile.Instr × Nat)) := [[(0, .iload_n 1, 1), (1, .tableswitch 60 0 4 #[35, 40, 45, 50, 55], 35), (36, .aload_n 0, 1), (37, .getfield 55, 3), (40, .ireturn, 1), (41, .aload_n 0, 1), (42, .getfield 58, 3), (45, .ireturn, 1), (46, .aload_n 0, 1), (47, .getfield 61, 3), (50, .ireturn, 1), (51, .aload_n 0, 1), (52, .getfield 16, 3), (55, .ireturn, 1), (56, .aload_n 0, 1), (57, .getfield 7, 3), (60, .ireturn, 1), (61, .aload_n 0, 1), (62, .getfield 52, 3)], [(65, .ireturn, 1)]]
def tb_c90 : List (List (Nat × ClassFile.Instr × Nat)) := [[(0, .aload_n 3, 1), (1, .iconst 0, 1), (2, .aload_n 0, 1), (3, .iload_n 1, 1), (4, .iload_n 2, 1), (5, .invokevirtual 39, 3), (8, .i2l, 1), (9, .lastore, 1), (10, .goto 7, 3), (13, .astore 4, 2), (15, .iconst 1, 1), (16, .ireturn, 1), (17, .iconst 0, 1), (18, .ireturn, 1)]]
def tb_c91 : List (List (Nat × ClassFile.Instr × Nat)) := [[(0, .aload_n 0, 1), (1, .getfield 27, 3), (4, .iload_n 1, 1), (5, .invokevirtual 144, 3), (8, .aload_n 0, 1), (9, .getfield 27, 3), (12, .iload_n 2, 1), (13, .invokevirtual 144, 3), (16, .aload_n 0, 1), (17, .getfield 36, 3), (20, .getfield 118, 3), (23, .iload_n 1, 1), (24, .invokevirtual 149, 3), (27, .astore_n 3, 1), (28, .aload_n 0, 1), (29, .getfield 36, 3), (32, .getfield 118, 3), (35, .iload_n 2, 1), (36, .invokevirtual 149, 3), (39, .astore 4, 2), (41, .aload_n 3, 1), (42, .ifnull 8, 3), (45, .aload 4, 2), (47, .ifnonnull 7, 3), (50, .iconst 0, 1), (51, .goto 9, 3), (54, .aload 4, 2), (56, .aload_n 3, 1), (57, .invokevirtual 162, 3), (60, .ireturn, 1)]]
def tb_c92 : List (List (Nat × ClassFile.Instr × Nat)) := [[(0, .aload_n 2, 1), (1, .iconst 0, 1), (2, .aload_n 0, 1), (3, .iload_n 1, 1), (4, .invokevirtual 42, 3), (7, .i2l, 1), (8, .lastore, 1), (9, .goto 9, 3), (12, .astore_n 3, 1), (13, .iconst 1, 1), (14, .ireturn, 1), (15, .astore_n 3, 1), (16, .iconst 2, 1), (17, .ireturn, 1), (18, .iconst 0, 1), (19, .ireturn, 1)]]
def tb_c93 : List (List (Nat × ClassFile.Instr × Nat)) := [[(0, .iload_n 1, 1), (1, .iconst 0, 1), (2, .sipush 1000, 3), (5, .invokestatic 58, 3), (8, .ifCond .ne 13, 3), (11, .new 51, 3), (14, .dup, 1), (15, .ldc 166, 2), (17, .invokespecial 55, 3), (20, .athrow, 1), (21, .iload_n 1, 1), (22, .aload_n 0, 1), (23, .getfield 43, 3), (26, .invokevirtual 168, 3), (29, .if_icmp .gt 13, 3), (32, .new 51, 3), (35, .dup, 1), (36, .ldc 171, 2), (38, .invokespecial 55, 3), (41, .athrow, 1), (42, .aload_n 0, 1), (43, .getfield 43, 3), (46, .invokevirtual 173, 3), (49, .ifCond .eq 13, 3), (52, .new 68, 3), (55, .dup, 1), (56, .ldc 174, 2), (58, .invokespecial 72, 3), (61, .athrow, 1), (62, .aload_n 0, 1), (63, .getfield 43, 3)], [(66, .iload_n 1, 1), (67, .invokevirtual 176, 3), (70, .ireturn, 1)]]
def tb_c94 : List (List (Nat × ClassFile.Instr × Nat)) := [[(0, .aload_n 0, 1), (1, .getfield 15, 3), (4, .ifCond .le 17, 3), (7, .aload_n 0, 1), (8, .getfield 9, 3), (11, .aload_n 0, 1), (12, .getfield 15, 3), (15, .iconst 1, 1), (16, .isub, 1), (17, .iaload, 1), (18, .goto 4, 3), (21, .iconst (-1), 1), (22, .ireturn, 1)]]
def tb_c95 : List (List (Nat × ClassFile.Instr × Nat)) := [[(0, .aload_n 0, 1), (1, .getfield 15, 3), (4, .bipush 6, 2), (6, .if_icmp .lt 7, 3), (9, .iconst 1, 1), (10, .goto 4, 3), (13, .iconst 0, 1), (14, .ireturn, 1)]]
def tb_c96 : List (List (Nat × ClassFile.Instr × Nat)) := [[(0, .aload_n 0, 1), (1, .invokevirtual 19, 3), (4, .ifCond .eq 5, 3), (7, .iconst (-1), 1), (8, .ireturn, 1), (9, .aload_n 0, 1), (10, .getfield 9, 3), (13, .aload_n 0, 1), (14, .getfield 15, 3), (17, .iload_n 1, 1), (18, .iastore, 1), (19, .aload_n 0, 1), (20, .dup, 1), (21, .getfield 15, 3), (24, .iconst 1, 1), (25, .iadd, 1), (26, .putfield 15, 3), (29, .aload_n 0, 1), (30, .getfield 15, 3), (33, .iconst 1, 1), (34, .isub, 1), (35, .ireturn, 1)]]
def tb_c97 : List (List (Nat × ClassFile.Instr × Nat)) := [[(0, .aload_n 3, 1), (1, .iconst 0, 1), (2, .aload_n 0, 1), (3, .iload_n 1, 1), (4, .iload_n 2, 1), (5, .invokevirtual 45, 3), (8, .lastore, 1), (9, .goto 15, 3), (12, .astore 4, 2), (14, .iconst 1, 1), (15, .ireturn, 1), (16, .astore 4, 2), (18, .iconst 2, 1), (19, .ireturn, 1), (20, .astore 4, 2), (22, .iconst 3, 1), (23, .ireturn, 1), (24, .iconst 0, 1), (25, .ireturn, 1)]]
def tb_c98 : List (List (Nat × ClassFile.Instr × Nat)) := [[(0, .aload_n 0, 1), (1, .getfield 43, 3), (4, .getfield 178, 3), (7, .ifCond .ne 13, 3), (10, .new 181, 3), (13, .dup, 1), (14, .ldc 183, 2), (16, .invokespecial 185, 3), (19, .athrow, 1), (20, .aload_n 0, 1), (21, .getfield 43, 3), (24, .iload_n 1, 1), (25, .invokevirtual 186, 3), (28, .ifCond .ne 13, 3), (31, .new 189, 3), (34, .dup, 1), (35, .ldc 191, 2), (37, .invokespecial 193, 3), (40, .athrow, 1), (41, .iload_n 2, 1), (42, .iconst 0, 1), (43, .iconst 1, 1), (44, .invokestatic 58, 3), (47, .ifCond .ne 13, 3), (50, .new 51, 3), (53, .dup, 1), (54, .ldc 194, 2), (56, .invokespecial 55, 3), (59, .athrow, 1), (60, .aload_n 0, 1), (61, .getfield 43, 3)], [(64, .iload_n 1, 1), (65, .iload_n 2, 1), (66, .aload_n 0, 1), (67, .getfield 36, 3), (70, .getfield 118, 3), (73, .invokevirtual 196, 3), (76, .lreturn, 1)]]
def tb_c99 : List (List (Nat × ClassFile.Instr × Nat)) := [[(0, .iload_n 1, 1), (1, .ifCond .lt 15, 3), (4, .iload_n 1, 1), (5, .aload_n 0, 1), (6, .getfield 15, 3), (9, .if_icmp .ge 7, 3), (12, .iconst 1, 1), (13, .goto 4, 3), (16, .iconst 0, 1), (17, .ireturn, 1)]]
def tb_c100 : List (List (Nat × ClassFile.Instr × Nat)) := [[(0, .aload_n 0, 1), (1, .iload_n 1, 1), (2, .iconst 1, 1), (3, .isub, 1), (4, .invokevirtual 23, 3), (7, .i2l, 1), (8, .lstore 4, 2), (10, .aload_n 0, 1), (11, .iload_n 1, 1), (12, .invokevirtual 23, 3), (15, .i2l, 1), (16, .lstore 6, 2), (18, .aload_n 0, 1), (19, .iload_n 1, 1), (20, .aload_n 3, 1), (21, .invokevirtual 27, 3), (24, .lload 6, 2), (26, .lmul, 1), (27, .aload_n 0, 1), (28, .iload_n 1, 1), (29, .aload_n 3, 1), (30, .invokevirtual 31, 3), (33, .lload 4, 2), (35, .lmul, 1), (36, .ladd, 1), (37, .lstore 8, 2), (39, .lload 8, 2), (41, .lload 4, 2), (43, .lload 6, 2), (45, .lmul, 1), (46, .iload_n 2, 1), (47, .invokestatic 34, 3), (50, .lreturn, 1)]]
def tb_c101 : List (List (Nat × ClassFile.Instr × Nat)) := [[(0, .aload_n 0, 1), (1, .iload_n 1, 1), (2, .invokevirtual 38, 3), (5, .ifCond .eq 33, 3), (8, .aload_n 0, 1), (9, .iload_n 1, 1), (10, .iconst 1, 1), (11, .iadd, 1), (12, .invokevirtual 38, 3), (15, .ifCond .eq 23, 3), (18, .iconst 2, 1), (19, .aload_n 0, 1), (20, .getfield 9, 3), (23, .iload_n 1, 1), (24, .iconst 1, 1), (25, .iadd, 1), (26, .iaload, 1), (27, .aload_n 0, 1), (28, .getfield 9, 3), (31, .iload_n 1, 1), (32, .iaload, 1), (33, .isub, 1), (34, .imul, 1), (35, .goto 4, 3), (38, .iconst 1, 1), (39, .ireturn, 1)]]
def tb_c102 : List (List (Nat × ClassFile.Instr × Nat)) := [[(0, .lconst 0, 1), (1, .lstore_n 3, 1), (2, .iconst 0, 1), (3, .istore 5, 2), (5, .iload 5, 2), (7, .aload_n 2, 1), (8, .getfield 42, 3), (11, .if_icmp .ge 79, 3), (14, .aload_n 2, 1), (15, .getfield 47, 3), (18, .iload 5, 2), (20, .aaload, 1), (21, .astore 6, 2), (23, .iconst 2, 1), (24, .aload 6, 2), (26, .getfield 51, 3), (29, .imul, 1), (30, .aload 6, 2), (32, .getfield 56, 3), (35, .iadd, 1), (36, .istore 7, 2), (38, .aload_n 0, 1), (39, .iload_n 1, 1), (40, .iconst 1, 1), (41, .isub, 1), (42, .invokevirtual 38, 3), (45, .ifCond .eq 39, 3), (48, .aload_n 0, 1), (49, .iload 7, 2), (51, .invokevirtual 59, 3), (54, .iload_n 1, 1), (55, .iconst 1, 1), (56, .isub, 1), (57, .if_icmp .ne 27, 3), (60, .lload_n 3, 1), (61, .aload 6, 2), (63, .getfield 62, 3)], [(66, .i2l, 1), (67, .iload 7, 2), (69, .iconst 2, 1), (70, .aload_n 0, 1), (71, .getfield 9, 3), (74, .iload_n 1, 1), (75, .iconst 1, 1), (76, .isub, 1), (77, .iaload, 1), (78, .imul, 1), (79, .isub, 1), (80, .i2l, 1), (81, .lmul, 1), (82, .ladd, 1), (83, .lstore_n 3, 1), (84, .iinc 5 1, 3), (87, .goto (-82), 3), (90, .lload_n 3, 1), (91, .lreturn, 1)]]
def tb_c103 : List (List (Nat × ClassFile.Instr × Nat)) := [[(0, .iconst 0, 1), (1, .istore_n 2, 1), (2, .iconst 1, 1), (3, .istore_n 3, 1), (4, .iload_n 3, 1), (5, .aload_n 0, 1), (6, .getfield 15, 3), (9, .iconst 1, 1), (10, .isub, 1), (11, .if_icmp .ge 23, 3), (14, .iconst 2, 1), (15, .aload_n 0, 1), (16, .getfield 9, 3), (19, .iload_n 3, 1), (20, .iaload, 1), (21, .imul, 1), (22, .iload_n 1, 1), (23, .if_icmp .gt 5, 3), (26, .iload_n 3, 1), (27, .istore_n 2, 1), (28, .iinc 3 1, 3), (31, .goto (-27), 3), (34, .iload_n 2, 1), (35, .ireturn, 1)]]
def tb_c104 : List (List (Nat × ClassFile.Instr × Nat)) := [[(0, .lconst 0, 1), (1, .lstore_n 3, 1), (2, .iconst 0, 1), (3, .istore 5, 2), (5, .iload 5, 2), (7, .aload_n 2, 1), (8, .getfield 42, 3), (11, .if_icmp .ge 97, 3), (14, .aload_n 2, 1), (15, .getfield 47, 3), (18, .iload 5, 2), (20, .aaload, 1), (21, .astore 6, 2), (23, .iconst 2, 1), (24, .aload 6, 2), (26, .getfield 51, 3), (29, .imul, 1), (30, .aload 6, 2), (32, .getfield 56, 3), (35, .iadd, 1), (36, .istore 7, 2), (38, .aload_n 0, 1), (39, .getfield 15, 3), (42, .iconst 1, 1), (43, .if_icmp .ne 15, 3), (46, .lload_n 3, 1), (47, .aload 6, 2), (49, .getfield 62, 3), (52, .i2l, 1), (53, .ladd, 1), (54, .lstore_n 3, 1), (55, .goto 47, 3), (58, .aload_n 0, 1), (59, .iload_n 1, 1), (60, .iconst 1, 1), (61, .iadd, 1), (62, .invokevirtual 38, 3)], [(65, .ifCond .eq 37, 3), (68, .aload_n 0, 1), (69, .iload 7, 2), (71, .invokevirtual 59, 3), (74, .iload_n 1, 1), (75, .if_icmp .ne 27, 3), (78, .lload_n 3, 1), (79, .aload 6, 2), (81, .getfield 62, 3), (84, .i2l, 1), (85, .iconst 2, 1), (86, .aload_n 0, 1), (87, .getfield 9, 3), (90, .iload_n 1, 1), (91, .iconst 1, 1), (92, .iadd, 1), (93, .iaload, 1), (94, .imul, 1), (95, .iload 7, 2), (97, .isub, 1), (98, .i2l, 1), (99, .lmul, 1), (100, .ladd, 1), (101, .lstore_n 3, 1), (102, .iinc 5 1, 3), (105, .goto (-100), 3), (108, .lload_n 3, 1), (109, .lreturn, 1)]]
def tb_c105 : List (List (Nat × ClassFile.Instr × Nat)) := [[(0, .iload 4, 2), (2, .ifCond .ne 7, 3), (5, .lload_n 0, 1), (6, .goto 4, 3), (9, .lload_n 2, 1), (10, .lstore 5, 2), (12, .lload_n 0, 1), (13, .invokestatic 65, 3), (16, .lload_n 2, 1), (17, .invokestatic 71, 3), (20, .lstore 7, 2), (22, .lload 7, 2), (24, .lconst 1, 1), (25, .lcmp, 1), (26, .ifCond .le 11, 3), (29, .lload 5, 2), (31, .lload 7, 2), (33, .ldiv, 1), (34, .goto 5, 3), (37, .lload 5, 2), (39, .lreturn, 1)]]
def tb_c106 : List (List (Nat × ClassFile.Instr × Nat)) := [[(0, .lload_n 0, 1), (1, .lconst 0, 1), (2, .lcmp, 1), (3, .ifCond .ge 8, 3), (6, .lload_n 0, 1), (7, .lneg, 1), (8, .goto 4, 3), (11, .lload_n 0, 1), (12, .lreturn, 1)]]
def tb_c107 : List (List (Nat × ClassFile.Instr × Nat)) := [[(0, .lload_n 0, 1), (1, .lstore 4, 2), (3, .lload_n 2, 1), (4, .lstore 6, 2), (6, .iconst 0, 1), (7, .istore 8, 2), (9, .iload 8, 2), (11, .sipush 1000, 3), (14, .if_icmp .ge 31, 3), (17, .lload 6, 2), (19, .lconst 0, 1), (20, .lcmp, 1), (21, .ifCond .eq 24, 3), (24, .lload 4, 2), (26, .lload 6, 2), (28, .lrem, 1), (29, .lstore 9, 2), (31, .lload 6, 2), (33, .lstore 4, 2), (35, .lload 9, 2), (37, .lstore 6, 2), (39, .iinc 8 1, 3), (42, .goto (-33), 3), (45, .lload 4, 2), (47, .lreturn, 1)]]
def tb_c108 : List (List (Nat × ClassFile.Instr × Nat)) := [[(0, .aload_n 0, 1), (1, .invokespecial 1, 3), (4, .aload_n 0, 1), (5, .iconst 3, 1), (6, .newarray .int, 2), (8, .putfield 7, 3), (11, .aload_n 0, 1), (12, .bipush 24, 2), (14, .newarray .int, 2), (16, .putfield 13, 3), (19, .aload_n 0, 1), (20, .bipush 8, 2), (22, .newarray .int, 2), (24, .putfield 16, 3), (27, .aload_n 0, 1), (28, .bipush 8, 2), (30, .newarray .int, 2), (32, .putfield 19, 3), (35, .aload_n 0, 1), (36, .bipush 8, 2), (38, .newarray .int, 2), (40, .putfield 22, 3), (43, .aload_n 0, 1), (44, .bipush 8, 2), (46, .newarray .int, 2), (48, .putfield 25, 3), (51, .aload_n 0, 1), (52, .bipush 8, 2), (54, .newarray .int, 2), (56, .putfield 28, 3), (59, .aload_n 0, 1), (60, .bipush 8, 2), (62, .newarray .int, 2)], [(64, .putfield 31, 3), (67, .aload_n 0, 1), (68, .bipush 24, 2), (70, .newarray .int, 2), (72, .putfield 34, 3), (75, .aload_n 0, 1), (76, .bipush 24, 2), (78, .newarray .int, 2), (80, .putfield 37, 3), (83, .aload_n 0, 1), (84, .bipush 8, 2), (86, .newarray .int, 2), (88, .putfield 40, 3), (91, .aload_n 0, 1), (92, .bipush 8, 2), (94, .newarray .boolean, 2), (96, .putfield 43, 3), (99, .aload_n 0, 1), (100, .bipush 9, 2), (102, .newarray .int, 2), (104, .putfield 47, 3), (107, .aload_n 0, 1), (108, .bipush 9, 2), (110, .newarray .int, 2), (112, .putfield 50, 3), (115, .aload_n 0, 1), (116, .bipush 9, 2), (118, .newarray .int, 2), (120, .putfield 53, 3), (123, .aload_n 0, 1), (124, .sipush 243, 3), (127, .newarray .int, 2)], [(129, .putfield 56, 3), (132, .aload_n 0, 1), (133, .bipush 27, 2), (135, .newarray .int, 2), (137, .putfield 59, 3), (140, .aload_n 0, 1), (141, .bipush 8, 2), (143, .newarray .int, 2), (145, .putfield 62, 3), (148, .aload_n 0, 1), (149, .bipush 8, 2), (151, .newarray .int, 2), (153, .putfield 65, 3), (156, .aload_n 0, 1), (157, .bipush 24, 2), (159, .newarray .int, 2), (161, .putfield 68, 3), (164, .aload_n 0, 1), (165, .bipush 24, 2), (167, .newarray .int, 2), (169, .putfield 71, 3), (172, .aload_n 0, 1), (173, .bipush 8, 2), (175, .newarray .int, 2), (177, .putfield 74, 3), (180, .aload_n 0, 1), (181, .bipush 6, 2), (183, .newarray .int, 2), (185, .putfield 77, 3), (188, .aload_n 0, 1), (189, .iconst 3, 1), (190, .newarray .int, 2)], [(192, .putfield 80, 3), (195, .aload_n 0, 1), (196, .getfield 7, 3), (199, .iconst 0, 1), (200, .iload_n 1, 1), (201, .invokestatic 83, 3), (204, .iastore, 1), (205, .aload_n 0, 1), (206, .getfield 7, 3), (209, .iconst 1, 1), (210, .iload_n 2, 1), (211, .invokestatic 83, 3), (214, .iastore, 1), (215, .aload_n 0, 1), (216, .getfield 7, 3), (219, .iconst 2, 1), (220, .iload_n 3, 1), (221, .invokestatic 83, 3), (224, .iastore, 1), (225, .return_, 1)]]
def tb_c109 : List (List (Nat × ClassFile.Instr × Nat)) := [[(0, .iload_n 0, 1), (1, .iconst 1, 1), (2, .if_icmp .ge 7, 3), (5, .iconst 1, 1), (6, .goto 17, 3), (9, .iload_n 0, 1), (10, .sipush 200, 3), (13, .if_icmp .le 9, 3), (16, .sipush 200, 3), (19, .goto 4, 3), (22, .iload_n 0, 1), (23, .ireturn, 1)]]
def tb_c110 : List (List (Nat × ClassFile.Instr × Nat)) := [[(0, .aload_n 0, 1), (1, .getfield 87, 3), (4, .ireturn, 1)]]
def tb_c111 : List (List (Nat × ClassFile.Instr × Nat)) := [[(0, .iload_n 1, 1), (1, .iconst 1, 1), (2, .sipush 200, 3), (5, .invokestatic 94, 3), (8, .ifCond .eq 41, 3), (11, .iload_n 2, 1), (12, .iconst 1, 1), (13, .sipush 200, 3), (16, .invokestatic 94, 3), (19, .ifCond .eq 30, 3), (22, .iload_n 3, 1), (23, .iconst 1, 1), (24, .sipush 200, 3), (27, .invokestatic 94, 3), (30, .ifCond .eq 19, 3), (33, .iload 4, 2), (35, .iconst 1, 1), (36, .sipush 10000, 3), (39, .invokestatic 94, 3), (42, .ifCond .eq 7, 3), (45, .iconst 1, 1), (46, .goto 4, 3), (49, .iconst 0, 1), (50, .istore 5, 2), (52, .aload_n 0, 1), (53, .iload 5, 2), (55, .ifCond .ne 7, 3), (58, .iconst 1, 1), (59, .goto 17, 3), (62, .aload_n 0, 1), (63, .getfield 91, 3)], [(66, .bipush 8, 2), (68, .if_icmp .ne 7, 3), (71, .iconst 2, 1), (72, .goto 4, 3), (75, .iconst 0, 1), (76, .putfield 87, 3), (79, .aload_n 0, 1), (80, .getfield 87, 3), (83, .ifCond .le 5, 3), (86, .iconst 0, 1), (87, .ireturn, 1), (88, .aload_n 0, 1), (89, .getfield 13, 3), (92, .iconst 3, 1), (93, .aload_n 0, 1), (94, .getfield 91, 3), (97, .imul, 1), (98, .iload_n 1, 1), (99, .iastore, 1), (100, .aload_n 0, 1), (101, .getfield 13, 3), (104, .iconst 3, 1), (105, .aload_n 0, 1), (106, .getfield 91, 3), (109, .imul, 1), (110, .iconst 1, 1), (111, .iadd, 1), (112, .iload_n 2, 1), (113, .iastore, 1), (114, .aload_n 0, 1), (115, .getfield 13, 3), (118, .iconst 3, 1), (119, .aload_n 0, 1), (120, .getfield 91, 3), (123, .imul, 1), (124, .iconst 2, 1), (125, .iadd, 1), (126, .iload_n 3, 1), (127, .iastore, 1)], [(128, .aload_n 0, 1), (129, .getfield 16, 3), (132, .aload_n 0, 1), (133, .getfield 91, 3), (136, .iload 4, 2), (138, .iastore, 1), (139, .aload_n 0, 1), (140, .getfield 19, 3), (143, .aload_n 0, 1), (144, .getfield 91, 3), (147, .iconst 0, 1), (148, .iastore, 1), (149, .aload_n 0, 1), (150, .getfield 22, 3), (153, .aload_n 0, 1), (154, .getfield 91, 3), (157, .iconst 0, 1), (158, .iastore, 1), (159, .aload_n 0, 1), (160, .getfield 25, 3), (163, .aload_n 0, 1), (164, .getfield 91, 3), (167, .ldc 112, 2), (169, .iastore, 1), (170, .aload_n 0, 1), (171, .dup, 1), (172, .getfield 91, 3), (175, .iconst 1, 1), (176, .iadd, 1), (177, .putfield 91, 3), (180, .aload_n 0, 1), (181, .invokevirtual 113, 3), (184, .aload_n 0, 1), (185, .getfield 91, 3), (188, .iconst 1, 1), (189, .isub, 1), (190, .ireturn, 1)]]
def tb_c112 : List (List (Nat × ClassFile.Instr × Nat)) := [[(0, .iload_n 0, 1), (1, .iload_n 1, 1), (2, .if_icmp .lt 12, 3), (5, .iload_n 0, 1), (6, .iload_n 2, 1), (7, .if_icmp .gt 7, 3), (10, .iconst 1, 1), (11, .goto 4, 3), (14, .iconst 0, 1), (15, .ireturn, 1)]]
def tb_c113 : List (List (Nat × ClassFile.Instr × Nat)) := [[(0, .aload_n 0, 1), (1, .iconst 0, 1), (2, .putfield 98, 3), (5, .aload_n 0, 1), (6, .iconst 0, 1), (7, .putfield 102, 3), (10, .aload_n 0, 1), (11, .lconst 0, 1), (12, .putfield 105, 3), (15, .aload_n 0, 1), (16, .lconst 0, 1), (17, .putfield 109, 3), (20, .return_, 1)]]
def tb_c114 : List (List (Nat × ClassFile.Instr × Nat)) := [[(0, .aload_n 0, 1), (1, .aload_n 0, 1), (2, .iload_n 1, 1), (3, .invokevirtual 116, 3), (6, .ifCond .ne 7, 3), (9, .iconst 1, 1), (10, .goto 17, 3), (13, .iload_n 2, 1), (14, .iconst 0, 1), (15, .iconst 3, 1), (16, .invokestatic 94, 3), (19, .ifCond .eq 7, 3), (22, .iconst 0, 1), (23, .goto 4, 3), (26, .iconst 2, 1), (27, .putfield 87, 3), (30, .aload_n 0, 1), (31, .getfield 87, 3), (34, .ifCond .le 5, 3), (37, .iconst 0, 1), (38, .ireturn, 1), (39, .aload_n 0, 1), (40, .getfield 19, 3), (43, .iload_n 1, 1), (44, .iaload, 1), (45, .istore_n 3, 1), (46, .aload_n 0, 1), (47, .getfield 19, 3), (50, .iload_n 1, 1), (51, .iload_n 2, 1), (52, .iastore, 1), (53, .aload_n 0, 1), (54, .invokevirtual 113, 3), (57, .iload_n 3, 1), (58, .ireturn, 1)]]
def tb_c115 : List (List (Nat × ClassFile.Instr × Nat)) := [[(0, .iload_n 1, 1), (1, .iconst 0, 1), (2, .aload_n 0, 1), (3, .getfield 91, 3), (6, .iconst 1, 1), (7, .isub, 1), (8, .invokestatic 94, 3), (11, .ireturn, 1)]]
def tb_c116 : List (List (Nat × ClassFile.Instr × Nat)) := [[(0, .aload_n 0, 1), (1, .aload_n 0, 1), (2, .iload_n 1, 1), (3, .invokevirtual 116, 3), (6, .ifCond .ne 7, 3), (9, .iconst 1, 1), (10, .goto 18, 3), (13, .iload_n 2, 1), (14, .iconst 0, 1), (15, .bipush 9, 2), (17, .invokestatic 94, 3), (20, .ifCond .eq 7, 3), (23, .iconst 0, 1), (24, .goto 4, 3), (27, .iconst 2, 1), (28, .putfield 87, 3), (31, .aload_n 0, 1), (32, .getfield 87, 3), (35, .ifCond .le 5, 3), (38, .iconst 0, 1), (39, .ireturn, 1), (40, .aload_n 0, 1), (41, .getfield 22, 3), (44, .iload_n 1, 1), (45, .iaload, 1), (46, .istore_n 3, 1), (47, .aload_n 0, 1), (48, .getfield 22, 3), (51, .iload_n 1, 1), (52, .iload_n 2, 1), (53, .iastore, 1), (54, .aload_n 0, 1), (55, .invokevirtual 113, 3), (58, .iload_n 3, 1), (59, .ireturn, 1)]]
def tb_c117 : List (List (Nat × ClassFile.Instr × Nat)) := [[(0, .aload_n 0, 1), (1, .aload_n 0, 1), (2, .iload_n 1, 1), (3, .invokevirtual 116, 3), (6, .ifCond .ne 7, 3), (9, .iconst 1, 1), (10, .goto 18, 3), (13, .iload_n 2, 1), (14, .iconst 0, 1), (15, .ldc 112, 2), (17, .invokestatic 94, 3), (20, .ifCond .eq 7, 3), (23, .iconst 0, 1), (24, .goto 4, 3), (27, .iconst 2, 1), (28, .putfield 87, 3), (31, .aload_n 0, 1), (32, .getfield 87, 3), (35, .ifCond .le 5, 3), (38, .iconst 0, 1), (39, .ireturn, 1), (40, .aload_n 0, 1), (41, .getfield 25, 3), (44, .iload_n 1, 1), (45, .iaload, 1), (46, .istore_n 3, 1), (47, .aload_n 0, 1), (48, .getfield 25, 3), (51, .iload_n 1, 1), (52, .iload_n 2, 1), (53, .iastore, 1), (54, .aload_n 0, 1), (55, .invokevirtual 113, 3), (58, .iload_n 3, 1), (59, .ireturn, 1)]]
def tb_c118 : List (List (Nat × ClassFile.Instr × Nat)) := [[(0, .aload_n 0, 1), (1, .aload_n 0, 1), (2, .iload_n 1, 1), (3, .invokevirtual 116, 3), (6, .ifCond .eq 7, 3), (9, .iconst 0, 1), (10, .goto 4, 3), (13, .iconst 1, 1), (14, .putfield 87, 3), (17, .aload_n 0, 1), (18, .getfield 87, 3), (21, .ifCond .le 7, 3), (24, .iconst 0, 1), (25, .goto 8, 3), (28, .aload_n 0, 1), (29, .iload_n 1, 1), (30, .invokevirtual 134, 3), (33, .ireturn, 1)]]
def tb_c119 : List (List (Nat × ClassFile.Instr × Nat)) := [[(0, .iconst 0, 1), (1, .istore_n 2, 1), (2, .iconst 0, 1), (3, .istore_n 3, 1), (4, .iload_n 3, 1), (5, .bipush 6, 2), (7, .if_icmp .ge 26, 3), (10, .iload_n 2, 1), (11, .aload_n 0, 1), (12, .iload_n 1, 1), (13, .iload_n 3, 1), (14, .invokevirtual 131, 3), (17, .ifCond .eq 7, 3), (20, .iconst 1, 1), (21, .goto 4, 3), (24, .iconst 0, 1), (25, .iadd, 1), (26, .istore_n 2, 1), (27, .iinc 3 1, 3), (30, .goto (-26), 3), (33, .iload_n 2, 1), (34, .ireturn, 1)]]
def tb_c120 : List (List (Nat × ClassFile.Instr × Nat)) := [[(0, .aload_n 0, 1), (1, .iload_n 1, 1), (2, .iload_n 2, 1), (3, .invokevirtual 124, 3), (6, .istore_n 3, 1), (7, .iconst 0, 1), (8, .istore 4, 2), (10, .iload 4, 2), (12, .iload_n 2, 1), (13, .if_icmp .ge 40, 3), (16, .iload_n 3, 1), (17, .ifCond .eq 28, 3), (20, .aload_n 0, 1), (21, .iload_n 1, 1), (22, .iload 4, 2), (24, .invokevirtual 124, 3), (27, .ifCond .eq 14, 3), (30, .aload_n 0, 1), (31, .iload_n 1, 1), (32, .iload_n 2, 1), (33, .iload 4, 2), (35, .invokevirtual 128, 3), (38, .ifCond .ne 7, 3), (41, .iconst 1, 1), (42, .goto 4, 3), (45, .iconst 0, 1), (46, .istore_n 3, 1), (47, .iinc 4 1, 3), (50, .goto (-40), 3), (53, .iconst 0, 1), (54, .istore 4, 2), (56, .iload 4, 2), (58, .iconst 3, 1), (59, .if_icmp .ge 58, 3), (62, .aload_n 0, 1), (63, .getfield 80, 3)], [(66, .iload 4, 2), (68, .aload_n 0, 1), (69, .getfield 13, 3), (72, .iconst 3, 1), (73, .iload_n 1, 1), (74, .imul, 1), (75, .iload_n 2, 1), (76, .iload 4, 2), (78, .invokestatic 120, 3), (81, .iadd, 1), (82, .iaload, 1), (83, .iastore, 1), (84, .iload_n 3, 1), (85, .ifCond .eq 24, 3), (88, .aload_n 0, 1), (89, .getfield 80, 3), (92, .iload 4, 2), (94, .iaload, 1), (95, .aload_n 0, 1), (96, .getfield 7, 3), (99, .iload 4, 2), (101, .iaload, 1), (102, .if_icmp .gt 7, 3), (105, .iconst 1, 1), (106, .goto 4, 3), (109, .iconst 0, 1), (110, .istore_n 3, 1), (111, .iinc 4 1, 3), (114, .goto (-58), 3), (117, .iload_n 3, 1), (118, .ireturn, 1)]]
def tb_c121 : List (List (Nat × ClassFile.Instr × Nat)) := [[(0, .iload_n 2, 1), (1, .ifCond .eq 33, 3), (4, .iload_n 2, 1), (5, .iconst 1, 1), (6, .if_icmp .ne 18, 3), (9, .aload_n 0, 1), (10, .getfield 19, 3), (13, .iload_n 1, 1), (14, .iaload, 1), (15, .iconst 1, 1), (16, .iand, 1), (17, .iconst 1, 1), (18, .if_icmp .ne 20, 3), (21, .goto 13, 3), (24, .aload_n 0, 1), (25, .getfield 19, 3), (28, .iload_n 1, 1), (29, .iaload, 1), (30, .iconst 1, 1), (31, .if_icmp .le 7, 3), (34, .iconst 1, 1), (35, .goto 4, 3), (38, .iconst 0, 1), (39, .ireturn, 1)]]
def tb_c122 : List (List (Nat × ClassFile.Instr × Nat)) := [[(0, .iconst 1, 1), (1, .istore 4, 2), (3, .iconst 0, 1), (4, .istore 5, 2), (6, .iload 5, 2), (8, .iconst 3, 1), (9, .if_icmp .ge 54, 3), (12, .iload 4, 2), (14, .ifCond .eq 40, 3), (17, .aload_n 0, 1), (18, .getfield 13, 3), (21, .iconst 3, 1), (22, .iload_n 1, 1), (23, .imul, 1), (24, .iload_n 2, 1), (25, .iload 5, 2), (27, .invokestatic 120, 3), (30, .iadd, 1), (31, .iaload, 1), (32, .aload_n 0, 1), (33, .getfield 13, 3), (36, .iconst 3, 1), (37, .iload_n 1, 1), (38, .imul, 1), (39, .iload_n 3, 1), (40, .iload 5, 2), (42, .invokestatic 120, 3), (45, .iadd, 1), (46, .iaload, 1), (47, .if_icmp .ne 7, 3), (50, .iconst 1, 1), (51, .goto 4, 3), (54, .iconst 0, 1), (55, .istore 4, 2), (57, .iinc 5 1, 3), (60, .goto (-54), 3), (63, .iload 4, 2)], [(65, .ireturn, 1)]]
def tb_c123 : List (List (Nat × ClassFile.Instr × Nat)) := [[(0, .iload_n 0, 1), (1, .tableswitch 78 0 4 #[35, 37, 41, 54, 66], 35), (36, .iload_n 1, 1), (37, .ireturn, 1), (38, .iconst 2, 1), (39, .iload_n 1, 1), (40, .isub, 1), (41, .ireturn, 1), (42, .iload_n 1, 1), (43, .iconst 2, 1), (44, .if_icmp .ne 7, 3), (47, .iconst 2, 1), (48, .goto 6, 3), (51, .iconst 1, 1), (52, .iload_n 1, 1), (53, .isub, 1), (54, .ireturn, 1), (55, .iload_n 1, 1), (56, .ifCond .ne 7, 3), (59, .iconst 2, 1), (60, .goto 6, 3), (63, .iload_n 1, 1)], [(64, .iconst 1, 1), (65, .isub, 1), (66, .ireturn, 1), (67, .iload_n 1, 1), (68, .ifCond .ne 7, 3), (71, .iconst 0, 1), (72, .goto 6, 3), (75, .iconst 3, 1), (76, .iload_n 1, 1), (77, .isub, 1), (78, .ireturn, 1), (79, .iload_n 1, 1), (80, .iconst 2, 1), (81, .if_icmp .ne 7, 3), (84, .iconst 0, 1), (85, .goto 6, 3), (88, .iload_n 1, 1), (89, .iconst 1, 1), (90, .iadd, 1), (91, .ireturn, 1)]]
def tb_c124 : List (List (Nat × ClassFile.Instr × Nat)) := [[(0, .aload_n 0, 1), (1, .iconst 0, 1), (2, .putfield 87, 3), (5, .iconst 0, 1), (6, .istore_n 1, 1), (7, .iconst 0, 1), (8, .istore_n 2, 1), (9, .iload_n 2, 1), (10, .aload_n 0, 1), (11, .getfield 91, 3), (14, .if_icmp .ge 29, 3), (17, .iload_n 1, 1), (18, .aload_n 0, 1), (19, .iload_n 2, 1), (20, .invokevirtual 134, 3), (23, .ifCond .le 11, 3), (26, .aload_n 0, 1), (27, .iload_n 2, 1), (28, .invokevirtual 137, 3), (31, .goto 4, 3), (34, .iconst 0, 1), (35, .iadd, 1), (36, .istore_n 1, 1), (37, .iinc 2 1, 3), (40, .goto (-31), 3), (43, .aload_n 0, 1), (44, .getfield 7, 3), (47, .iconst 0, 1), (48, .iaload, 1), (49, .aload_n 0, 1), (50, .getfield 7, 3), (53, .iconst 1, 1), (54, .iaload, 1), (55, .imul, 1), (56, .aload_n 0, 1), (57, .getfield 7, 3), (60, .iconst 2, 1), (61, .iaload, 1), (62, .imul, 1), (63, .istore_n 2, 1)], [(64, .iload_n 1, 1), (65, .iload_n 2, 1), (66, .if_icmp .ge 7, 3), (69, .iload_n 1, 1), (70, .goto 4, 3), (73, .iload_n 2, 1), (74, .ireturn, 1)]]
def tb_c125 : List (List (Nat × ClassFile.Instr × Nat)) := [[(0, .aload_n 0, 1), (1, .getfield 13, 3), (4, .iconst 3, 1), (5, .iload_n 1, 1), (6, .imul, 1), (7, .iaload, 1), (8, .aload_n 0, 1), (9, .getfield 13, 3), (12, .iconst 3, 1), (13, .iload_n 1, 1), (14, .imul, 1), (15, .iconst 1, 1), (16, .iadd, 1), (17, .iaload, 1), (18, .imul, 1), (19, .aload_n 0, 1), (20, .getfield 13, 3), (23, .iconst 3, 1), (24, .iload_n 1, 1), (25, .imul, 1), (26, .iconst 2, 1), (27, .iadd, 1), (28, .iaload, 1), (29, .imul, 1), (30, .ireturn, 1)]]
def tb_c126 : List (List (Nat × ClassFile.Instr × Nat)) := [[(0, .aload_n 0, 1), (1, .iload_n 1, 1), (2, .iconst 1, 1), (3, .sipush 1000, 3), (6, .invokestatic 94, 3), (9, .ifCond .eq 7, 3), (12, .iconst 0, 1), (13, .goto 4, 3), (16, .iconst 1, 1), (17, .putfield 87, 3), (20, .aload_n 0, 1), (21, .getfield 87, 3), (24, .ifCond .le 5, 3), (27, .iconst 0, 1), (28, .ireturn, 1), (29, .aload_n 0, 1), (30, .invokevirtual 113, 3), (33, .aload_n 0, 1), (34, .iconst 1, 1), (35, .putfield 98, 3), (38, .aload_n 0, 1), (39, .iconst 0, 1), (40, .putfield 163, 3), (43, .aload_n 0, 1), (44, .iconst 0, 1), (45, .putfield 166, 3), (48, .aload_n 0, 1), (49, .iconst 0, 1), (50, .putfield 140, 3), (53, .iconst 0, 1), (54, .istore_n 2, 1), (55, .iload_n 2, 1), (56, .bipush 8, 2), (58, .if_icmp .ge 16, 3), (61, .aload_n 0, 1), (62, .getfield 43, 3)], [(65, .iload_n 2, 1), (66, .iconst 0, 1), (67, .bastore, 1), (68, .iinc 2 1, 3), (71, .goto (-16), 3), (74, .aload_n 0, 1), (75, .invokevirtual 169, 3), (78, .iconst 1, 1), (79, .istore_n 2, 1), (80, .iload_n 2, 1), (81, .ifCond .eq 117, 3), (84, .aload_n 0, 1), (85, .invokevirtual 172, 3), (88, .ifCond .eq 91, 3), (91, .aload_n 0, 1), (92, .getfield 166, 3), (95, .iload_n 1, 1), (96, .if_icmp .ne 13, 3), (99, .aload_n 0, 1), (100, .iconst 1, 1), (101, .putfield 163, 3), (104, .iconst 0, 1), (105, .istore_n 2, 1), (106, .goto (-26), 3), (109, .aload_n 0, 1), (110, .dup, 1), (111, .getfield 166, 3), (114, .iconst 1, 1), (115, .iadd, 1), (116, .putfield 166, 3), (119, .aload_n 0, 1), (120, .getfield 53, 3), (123, .aload_n 0, 1), (124, .getfield 140, 3), (127, .iaload, 1)], [(128, .iconst 1, 1), (129, .isub, 1), (130, .istore_n 3, 1), (131, .aload_n 0, 1), (132, .aload_n 0, 1), (133, .getfield 47, 3), (136, .aload_n 0, 1), (137, .getfield 140, 3), (140, .iaload, 1), (141, .aload_n 0, 1), (142, .getfield 50, 3), (145, .aload_n 0, 1), (146, .getfield 140, 3), (149, .iaload, 1), (150, .aload_n 0, 1), (151, .iload_n 3, 1), (152, .invokevirtual 150, 3), (155, .aload_n 0, 1), (156, .iload_n 3, 1), (157, .invokevirtual 153, 3), (160, .aload_n 0, 1), (161, .iload_n 3, 1), (162, .invokevirtual 156, 3), (165, .invokevirtual 176, 3), (168, .aload_n 0, 1), (169, .invokevirtual 180, 3), (172, .aload_n 0, 1), (173, .invokevirtual 169, 3), (176, .goto (-96), 3), (179, .aload_n 0, 1), (180, .getfield 140, 3), (183, .ifCond .ne 8, 3), (186, .iconst 0, 1), (187, .istore_n 2, 1), (188, .goto (-108), 3), (191, .aload_n 0, 1)], [(192, .invokevirtual 183, 3), (195, .goto (-115), 3), (198, .aload_n 0, 1), (199, .getfield 105, 3), (202, .l2i, 1), (203, .ireturn, 1)]]
def tb_c127 : List (List (Nat × ClassFile.Instr × Nat)) := [[(0, .iconst 0, 1), (1, .istore_n 1, 1), (2, .iload_n 1, 1), (3, .iconst 3, 1), (4, .if_icmp .ge 182, 3), (7, .bipush 27, 2), (9, .aload_n 0, 1), (10, .getfield 140, 3), (13, .imul, 1), (14, .bipush 9, 2), (16, .iload_n 1, 1), (17, .imul, 1), (18, .iadd, 1), (19, .istore_n 2, 1), (20, .aload_n 0, 1), (21, .getfield 56, 3), (24, .iload_n 2, 1), (25, .iconst 0, 1), (26, .iastore, 1), (27, .iconst 1, 1), (28, .istore_n 3, 1), (29, .iconst 0, 1), (30, .istore 4, 2), (32, .iload 4, 2), (34, .aload_n 0, 1), (35, .getfield 140, 3), (38, .if_icmp .ge 128, 3), (41, .aload_n 0, 1), (42, .getfield 37, 3), (45, .iconst 3, 1), (46, .iload 4, 2), (48, .imul, 1), (49, .iload_n 1, 1), (50, .iadd, 1), (51, .iaload, 1), (52, .aload_n 0, 1), (53, .getfield 34, 3), (56, .iconst 3, 1), (57, .iload 4, 2), (59, .imul, 1), (60, .iload_n 1, 1), (61, .iadd, 1), (62, .iaload, 1), (63, .iadd, 1)], [(64, .istore 5, 2), (66, .iload_n 3, 1), (67, .istore 6, 2), (69, .aload_n 0, 1), (70, .getfield 56, 3), (73, .iload_n 2, 1), (74, .iload 6, 2), (76, .iadd, 1), (77, .iconst 1, 1), (78, .isub, 1), (79, .iaload, 1), (80, .iload 5, 2), (82, .if_icmp .le 9, 3), (85, .iinc 6 (-1), 3), (88, .goto (-19), 3), (91, .aload_n 0, 1), (92, .getfield 56, 3), (95, .iload_n 2, 1), (96, .iload 6, 2), (98, .iadd, 1), (99, .iconst 1, 1), (100, .isub, 1), (101, .iaload, 1), (102, .iload 5, 2), (104, .if_icmp .ne 6, 3), (107, .goto 53, 3), (110, .iload_n 3, 1), (111, .istore 7, 2), (113, .iload 7, 2), (115, .iload 6, 2), (117, .if_icmp .le 29, 3), (120, .aload_n 0, 1), (121, .getfield 56, 3), (124, .iload_n 2, 1), (125, .iload 7, 2), (127, .iadd, 1)], [(128, .aload_n 0, 1), (129, .getfield 56, 3), (132, .iload_n 2, 1), (133, .iload 7, 2), (135, .iadd, 1), (136, .iconst 1, 1), (137, .isub, 1), (138, .iaload, 1), (139, .iastore, 1), (140, .iinc 7 (-1), 3), (143, .goto (-30), 3), (146, .aload_n 0, 1), (147, .getfield 56, 3), (150, .iload_n 2, 1), (151, .iload 6, 2), (153, .iadd, 1), (154, .iload 5, 2), (156, .iastore, 1), (157, .iinc 3 1, 3), (160, .iinc 4 1, 3), (163, .goto (-131), 3), (166, .aload_n 0, 1), (167, .getfield 59, 3), (170, .iconst 3, 1), (171, .aload_n 0, 1), (172, .getfield 140, 3), (175, .imul, 1), (176, .iload_n 1, 1), (177, .iadd, 1), (178, .iload_n 3, 1), (179, .iastore, 1), (180, .iinc 1 1, 3), (183, .goto (-181), 3), (186, .aload_n 0, 1), (187, .getfield 47, 3), (190, .aload_n 0, 1), (191, .getfield 140, 3)], [(194, .iconst 0, 1), (195, .iastore, 1), (196, .aload_n 0, 1), (197, .getfield 50, 3), (200, .aload_n 0, 1), (201, .getfield 140, 3), (204, .iconst 0, 1), (205, .iastore, 1), (206, .aload_n 0, 1), (207, .getfield 53, 3), (210, .aload_n 0, 1), (211, .getfield 140, 3), (214, .iconst 0, 1), (215, .iastore, 1), (216, .return_, 1)]]
def tb_c128 : List (List (Nat × ClassFile.Instr × Nat)) := [[(0, .iconst 3, 1), (1, .aload_n 0, 1), (2, .getfield 140, 3), (5, .imul, 1), (6, .istore_n 1, 1), (7, .aload_n 0, 1), (8, .getfield 59, 3), (11, .iload_n 1, 1), (12, .iaload, 1), (13, .aload_n 0, 1), (14, .getfield 59, 3), (17, .iload_n 1, 1), (18, .iconst 1, 1), (19, .iadd, 1), (20, .iaload, 1), (21, .imul, 1), (22, .aload_n 0, 1), (23, .getfield 59, 3), (26, .iload_n 1, 1), (27, .iconst 2, 1), (28, .iadd, 1), (29, .iaload, 1), (30, .imul, 1), (31, .istore_n 2, 1), (32, .iconst (-1), 1), (33, .istore_n 3, 1), (34, .iconst 0, 1), (35, .istore 4, 2), (37, .aload_n 0, 1), (38, .getfield 47, 3), (41, .aload_n 0, 1), (42, .getfield 140, 3), (45, .iaload, 1), (46, .aload_n 0, 1), (47, .getfield 91, 3), (50, .if_icmp .ge 240, 3), (53, .aload_n 0, 1), (54, .getfield 47, 3), (57, .aload_n 0, 1), (58, .getfield 140, 3), (61, .iaload, 1), (62, .istore 5, 2)], [(64, .iload_n 3, 1), (65, .bipush 6, 2), (67, .iload 5, 2), (69, .imul, 1), (70, .aload_n 0, 1), (71, .getfield 50, 3), (74, .aload_n 0, 1), (75, .getfield 140, 3), (78, .iaload, 1), (79, .iadd, 1), (80, .if_icmp .eq 50, 3), (83, .aload_n 0, 1), (84, .getfield 50, 3), (87, .aload_n 0, 1), (88, .getfield 140, 3), (91, .iaload, 1), (92, .bipush 6, 2), (94, .if_icmp .ge 36, 3), (97, .bipush 6, 2), (99, .iload 5, 2), (101, .imul, 1), (102, .aload_n 0, 1), (103, .getfield 50, 3), (106, .aload_n 0, 1), (107, .getfield 140, 3), (110, .iaload, 1), (111, .iadd, 1), (112, .istore_n 3, 1), (113, .aload_n 0, 1), (114, .iload 5, 2), (116, .aload_n 0, 1), (117, .getfield 50, 3), (120, .aload_n 0, 1), (121, .getfield 140, 3), (124, .iaload, 1), (125, .invokevirtual 131, 3)], [(128, .istore 4, 2), (130, .aload_n 0, 1), (131, .getfield 43, 3), (134, .iload 5, 2), (136, .baload, 1), (137, .ifCond .ne 17, 3), (140, .aload_n 0, 1), (141, .getfield 50, 3), (144, .aload_n 0, 1), (145, .getfield 140, 3), (148, .iaload, 1), (149, .bipush 6, 2), (151, .if_icmp .ne 39, 3), (154, .aload_n 0, 1), (155, .getfield 47, 3), (158, .aload_n 0, 1), (159, .getfield 140, 3), (162, .dup2, 1), (163, .iaload, 1), (164, .iconst 1, 1), (165, .iadd, 1), (166, .iastore, 1), (167, .aload_n 0, 1), (168, .getfield 50, 3), (171, .aload_n 0, 1), (172, .getfield 140, 3), (175, .iconst 0, 1), (176, .iastore, 1), (177, .aload_n 0, 1), (178, .getfield 53, 3), (181, .aload_n 0, 1), (182, .getfield 140, 3), (185, .iconst 0, 1), (186, .iastore, 1), (187, .goto 100, 3), (190, .aload_n 0, 1), (191, .getfield 53, 3)], [(194, .aload_n 0, 1), (195, .getfield 140, 3), (198, .iaload, 1), (199, .iload_n 2, 1), (200, .if_icmp .eq 8, 3), (203, .iload 4, 2), (205, .ifCond .ne 29, 3), (208, .aload_n 0, 1), (209, .getfield 50, 3), (212, .aload_n 0, 1), (213, .getfield 140, 3), (216, .dup2, 1), (217, .iaload, 1), (218, .iconst 1, 1), (219, .iadd, 1), (220, .iastore, 1), (221, .aload_n 0, 1), (222, .getfield 53, 3), (225, .aload_n 0, 1), (226, .getfield 140, 3), (229, .iconst 0, 1), (230, .iastore, 1), (231, .goto 56, 3), (234, .aload_n 0, 1), (235, .getfield 53, 3), (238, .aload_n 0, 1), (239, .getfield 140, 3), (242, .iaload, 1), (243, .istore 6, 2), (245, .aload_n 0, 1), (246, .getfield 53, 3), (249, .aload_n 0, 1), (250, .getfield 140, 3), (253, .dup2, 1), (254, .iaload, 1), (255, .iconst 1, 1)], [(256, .iadd, 1), (257, .iastore, 1), (258, .aload_n 0, 1), (259, .iload 5, 2), (261, .aload_n 0, 1), (262, .iload 6, 2), (264, .invokevirtual 150, 3), (267, .aload_n 0, 1), (268, .iload 6, 2), (270, .invokevirtual 153, 3), (273, .aload_n 0, 1), (274, .iload 6, 2), (276, .invokevirtual 156, 3), (279, .invokevirtual 159, 3), (282, .ifCond .eq 5, 3), (285, .iconst 1, 1), (286, .ireturn, 1), (287, .goto (-250), 3), (290, .iconst 0, 1), (291, .ireturn, 1)]]
def tb_c129 : List (List (Nat × ClassFile.Instr × Nat)) := [[(0, .aload_n 0, 1), (1, .getfield 56, 3), (4, .bipush 27, 2), (6, .aload_n 0, 1), (7, .getfield 140, 3), (10, .imul, 1), (11, .iload_n 1, 1), (12, .aload_n 0, 1), (13, .getfield 59, 3), (16, .iconst 3, 1), (17, .aload_n 0, 1), (18, .getfield 140, 3), (21, .imul, 1), (22, .iaload, 1), (23, .irem, 1), (24, .iadd, 1), (25, .iaload, 1), (26, .ireturn, 1)]]
def tb_c130 : List (List (Nat × ClassFile.Instr × Nat)) := [[(0, .aload_n 0, 1), (1, .getfield 56, 3), (4, .bipush 27, 2), (6, .aload_n 0, 1), (7, .getfield 140, 3), (10, .imul, 1), (11, .bipush 9, 2), (13, .iadd, 1), (14, .iload_n 1, 1), (15, .aload_n 0, 1), (16, .getfield 59, 3), (19, .iconst 3, 1), (20, .aload_n 0, 1), (21, .getfield 140, 3), (24, .imul, 1), (25, .iaload, 1), (26, .idiv, 1), (27, .aload_n 0, 1), (28, .getfield 59, 3), (31, .iconst 3, 1), (32, .aload_n 0, 1), (33, .getfield 140, 3), (36, .imul, 1), (37, .iconst 2, 1), (38, .iadd, 1), (39, .iaload, 1), (40, .idiv, 1), (41, .iadd, 1), (42, .iaload, 1), (43, .ireturn, 1)]]
def tb_c131 : List (List (Nat × ClassFile.Instr × Nat)) := [[(0, .aload_n 0, 1), (1, .getfield 56, 3), (4, .bipush 27, 2), (6, .aload_n 0, 1), (7, .getfield 140, 3), (10, .imul, 1), (11, .bipush 18, 2), (13, .iadd, 1), (14, .iload_n 1, 1), (15, .aload_n 0, 1), (16, .getfield 59, 3), (19, .iconst 3, 1), (20, .aload_n 0, 1), (21, .getfield 140, 3), (24, .imul, 1), (25, .iaload, 1), (26, .idiv, 1), (27, .aload_n 0, 1), (28, .getfield 59, 3), (31, .iconst 3, 1), (32, .aload_n 0, 1), (33, .getfield 140, 3), (36, .imul, 1), (37, .iconst 2, 1), (38, .iadd, 1), (39, .iaload, 1), (40, .irem, 1), (41, .iadd, 1), (42, .iaload, 1), (43, .ireturn, 1)]]
def tb_c132 : List (List (Nat × ClassFile.Instr × Nat)) := [[(0, .iload_n 2, 1), (1, .aload_n 0, 1), (2, .getfield 80, 3), (5, .iconst 0, 1), (6, .iaload, 1), (7, .iadd, 1), (8, .aload_n 0, 1), (9, .getfield 7, 3), (12, .iconst 0, 1), (13, .iaload, 1), (14, .if_icmp .gt 49, 3), (17, .iload_n 3, 1), (18, .aload_n 0, 1), (19, .getfield 80, 3), (22, .iconst 1, 1), (23, .iaload, 1), (24, .iadd, 1), (25, .aload_n 0, 1), (26, .getfield 7, 3), (29, .iconst 1, 1), (30, .iaload, 1), (31, .if_icmp .gt 32, 3), (34, .iload 4, 2), (36, .aload_n 0, 1), (37, .getfield 80, 3), (40, .iconst 2, 1), (41, .iaload, 1), (42, .iadd, 1), (43, .aload_n 0, 1), (44, .getfield 7, 3), (47, .iconst 2, 1), (48, .iaload, 1), (49, .if_icmp .gt 14, 3), (52, .aload_n 0, 1), (53, .iload_n 2, 1), (54, .iload_n 3, 1), (55, .iload 4, 2), (57, .invokevirtual 143, 3), (60, .ifCond .ne 5, 3), (63, .iconst 0, 1)], [(64, .ireturn, 1), (65, .iconst 0, 1), (66, .istore 5, 2), (68, .iconst 0, 1), (69, .istore 6, 2), (71, .iload 6, 2), (73, .aload_n 0, 1), (74, .getfield 140, 3), (77, .if_icmp .ge 302, 3), (80, .aload_n 0, 1), (81, .getfield 28, 3), (84, .iload 6, 2), (86, .iaload, 1), (87, .istore 7, 2), (89, .aload_n 0, 1), (90, .iload 6, 2), (92, .iconst 0, 1), (93, .iload_n 2, 1), (94, .aload_n 0, 1), (95, .getfield 80, 3), (98, .iconst 0, 1), (99, .iaload, 1), (100, .invokevirtual 146, 3), (103, .istore 8, 2), (105, .aload_n 0, 1), (106, .iload 6, 2), (108, .iconst 1, 1), (109, .iload_n 3, 1), (110, .aload_n 0, 1), (111, .getfield 80, 3), (114, .iconst 1, 1), (115, .iaload, 1), (116, .invokevirtual 146, 3), (119, .istore 9, 2), (121, .aload_n 0, 1), (122, .iload 6, 2), (124, .iconst 2, 1), (125, .iload 4, 2), (127, .aload_n 0, 1)], [(128, .getfield 80, 3), (131, .iconst 2, 1), (132, .iaload, 1), (133, .invokevirtual 146, 3), (136, .istore 10, 2), (138, .iload 8, 2), (140, .ifCond .le 15, 3), (143, .iload 9, 2), (145, .ifCond .le 10, 3), (148, .iload 10, 2), (150, .ifCond .le 5, 3), (153, .iconst 0, 1), (154, .ireturn, 1), (155, .aload_n 0, 1), (156, .getfield 37, 3), (159, .iconst 3, 1), (160, .iload 6, 2), (162, .imul, 1), (163, .iconst 1, 1), (164, .iadd, 1), (165, .iaload, 1), (166, .aload_n 0, 1), (167, .getfield 34, 3), (170, .iconst 3, 1), (171, .iload 6, 2), (173, .imul, 1), (174, .iconst 1, 1), (175, .iadd, 1), (176, .iaload, 1), (177, .iadd, 1), (178, .istore 11, 2), (180, .iload 5, 2), (182, .iload 11, 2), (184, .iload_n 3, 1), (185, .if_icmp .ne 11, 3), (188, .iload 8, 2), (190, .iload 10, 2)], [(192, .imul, 1), (193, .goto 4, 3), (196, .iconst 0, 1), (197, .iadd, 1), (198, .istore 5, 2), (200, .iload_n 3, 1), (201, .iload 11, 2), (203, .if_icmp .lt 39, 3), (206, .iload 8, 2), (208, .ifCond .le 34, 3), (211, .iload 10, 2), (213, .ifCond .le 29, 3), (216, .aload_n 0, 1), (217, .getfield 40, 3), (220, .iload 6, 2), (222, .iaload, 1), (223, .aload_n 0, 1), (224, .getfield 16, 3), (227, .iload_n 1, 1), (228, .iaload, 1), (229, .iadd, 1), (230, .aload_n 0, 1), (231, .getfield 25, 3), (234, .iload 7, 2), (236, .iaload, 1), (237, .if_icmp .le 5, 3), (240, .iconst 0, 1), (241, .ireturn, 1), (242, .iload 8, 2), (244, .ifCond .le 12, 3), (247, .iload 9, 2), (249, .ifCond .le 7, 3), (252, .iconst 1, 1), (253, .goto 4, 3)], [(256, .iconst 0, 1), (257, .istore 12, 2), (259, .iload 4, 2), (261, .aload_n 0, 1), (262, .getfield 37, 3), (265, .iconst 3, 1), (266, .iload 6, 2), (268, .imul, 1), (269, .iconst 2, 1), (270, .iadd, 1), (271, .iaload, 1), (272, .aload_n 0, 1), (273, .getfield 34, 3), (276, .iconst 3, 1), (277, .iload 6, 2), (279, .imul, 1), (280, .iconst 2, 1), (281, .iadd, 1), (282, .iaload, 1), (283, .iadd, 1), (284, .if_icmp .lt 7, 3), (287, .iconst 1, 1), (288, .goto 4, 3), (291, .iconst 0, 1), (292, .istore 13, 2), (294, .aload_n 0, 1), (295, .getfield 37, 3), (298, .iconst 3, 1), (299, .iload 6, 2), (301, .imul, 1), (302, .iconst 2, 1), (303, .iadd, 1), (304, .iaload, 1), (305, .iload 4, 2), (307, .aload_n 0, 1), (308, .getfield 80, 3), (311, .iconst 2, 1), (312, .iaload, 1), (313, .iadd, 1), (314, .if_icmp .lt 7, 3), (317, .iconst 1, 1), (318, .goto 4, 3)], [(321, .iconst 0, 1), (322, .istore 14, 2), (324, .iload 12, 2), (326, .ifCond .eq 47, 3), (329, .iload 13, 2), (331, .ifCond .eq 19, 3), (334, .aload_n 0, 1), (335, .getfield 22, 3), (338, .iload_n 1, 1), (339, .iaload, 1), (340, .aload_n 0, 1), (341, .getfield 22, 3), (344, .iload 7, 2), (346, .iaload, 1), (347, .if_icmp .gt 24, 3), (350, .iload 14, 2), (352, .ifCond .eq 21, 3), (355, .aload_n 0, 1), (356, .getfield 22, 3), (359, .iload 7, 2), (361, .iaload, 1), (362, .aload_n 0, 1), (363, .getfield 22, 3), (366, .iload_n 1, 1), (367, .iaload, 1), (368, .if_icmp .le 5, 3), (371, .iconst 0, 1), (372, .ireturn, 1), (373, .iinc 6 1, 3), (376, .goto (-305), 3), (379, .iload_n 3, 1), (380, .ifCond .eq 21, 3), (383, .iload 5, 2)], [(385, .aload_n 0, 1), (386, .getfield 80, 3), (389, .iconst 0, 1), (390, .iaload, 1), (391, .aload_n 0, 1), (392, .getfield 80, 3), (395, .iconst 2, 1), (396, .iaload, 1), (397, .imul, 1), (398, .if_icmp .ne 7, 3), (401, .iconst 1, 1), (402, .goto 4, 3), (405, .iconst 0, 1), (406, .ireturn, 1)]]
def tb_c133 : List (List (Nat × ClassFile.Instr × Nat)) := [[(0, .aload_n 0, 1), (1, .getfield 140, 3), (4, .ifCond .ne 5, 3), (7, .iconst 1, 1), (8, .ireturn, 1), (9, .iconst 3, 1), (10, .aload_n 0, 1), (11, .getfield 140, 3), (14, .imul, 1), (15, .iconst 3, 1), (16, .isub, 1), (17, .istore 4, 2), (19, .iload_n 2, 1), (20, .aload_n 0, 1), (21, .getfield 37, 3), (24, .iload 4, 2), (26, .iconst 1, 1), (27, .iadd, 1), (28, .iaload, 1), (29, .if_icmp .eq 22, 3), (32, .iload_n 2, 1), (33, .aload_n 0, 1), (34, .getfield 37, 3), (37, .iload 4, 2), (39, .iconst 1, 1), (40, .iadd, 1), (41, .iaload, 1), (42, .if_icmp .le 7, 3), (45, .iconst 1, 1), (46, .goto 4, 3), (49, .iconst 0, 1), (50, .ireturn, 1), (51, .iload_n 3, 1), (52, .aload_n 0, 1), (53, .getfield 37, 3), (56, .iload 4, 2), (58, .iconst 2, 1), (59, .iadd, 1), (60, .iaload, 1), (61, .if_icmp .eq 24, 3)], [(64, .iload_n 3, 1), (65, .aload_n 0, 1), (66, .getfield 37, 3), (69, .iload 4, 2), (71, .iconst 2, 1), (72, .iadd, 1), (73, .iaload, 1), (74, .if_icmp .le 7, 3), (77, .iconst 1, 1), (78, .goto 23, 3), (81, .iconst 0, 1), (82, .goto 19, 3), (85, .iload_n 1, 1), (86, .aload_n 0, 1), (87, .getfield 37, 3), (90, .iload 4, 2), (92, .iaload, 1), (93, .if_icmp .le 7, 3), (96, .iconst 1, 1), (97, .goto 4, 3), (100, .iconst 0, 1), (101, .ireturn, 1)]]
def tb_c134 : List (List (Nat × ClassFile.Instr × Nat)) := [[(0, .aload_n 0, 1), (1, .getfield 37, 3), (4, .iconst 3, 1), (5, .iload_n 1, 1), (6, .imul, 1), (7, .iload_n 2, 1), (8, .iadd, 1), (9, .iaload, 1), (10, .iload_n 3, 1), (11, .if_icmp .le 16, 3), (14, .aload_n 0, 1), (15, .getfield 37, 3), (18, .iconst 3, 1), (19, .iload_n 1, 1), (20, .imul, 1), (21, .iload_n 2, 1), (22, .iadd, 1), (23, .iaload, 1), (24, .goto 4, 3), (27, .iload_n 3, 1), (28, .istore 5, 2), (30, .aload_n 0, 1), (31, .getfield 37, 3), (34, .iconst 3, 1), (35, .iload_n 1, 1), (36, .imul, 1), (37, .iload_n 2, 1), (38, .iadd, 1), (39, .iaload, 1), (40, .aload_n 0, 1), (41, .getfield 34, 3), (44, .iconst 3, 1), (45, .iload_n 1, 1), (46, .imul, 1), (47, .iload_n 2, 1), (48, .iadd, 1), (49, .iaload, 1), (50, .iadd, 1), (51, .istore 6, 2), (53, .iload_n 3, 1), (54, .iload 4, 2), (56, .iadd, 1), (57, .istore 7, 2), (59, .iload 6, 2), (61, .iload 7, 2), (63, .if_icmp .ge 8, 3)], [(66, .iload 6, 2), (68, .goto 5, 3), (71, .iload 7, 2), (73, .istore 8, 2), (75, .iload 8, 2), (77, .iload 5, 2), (79, .if_icmp .le 11, 3), (82, .iload 8, 2), (84, .iload 5, 2), (86, .isub, 1), (87, .goto 4, 3), (90, .iconst 0, 1), (91, .ireturn, 1)]]
def tb_c135 : List (List (Nat × ClassFile.Instr × Nat)) := [[(0, .iconst 0, 1), (1, .istore 6, 2), (3, .iload 6, 2), (5, .aload_n 0, 1), (6, .getfield 140, 3), (9, .if_icmp .ge 104, 3), (12, .aload_n 0, 1), (13, .iload 6, 2), (15, .iconst 0, 1), (16, .iload_n 3, 1), (17, .aload_n 0, 1), (18, .getfield 80, 3), (21, .iconst 0, 1), (22, .iaload, 1), (23, .invokevirtual 146, 3), (26, .ifCond .le 25, 3), (29, .aload_n 0, 1), (30, .iload 6, 2), (32, .iconst 2, 1), (33, .iload 5, 2), (35, .aload_n 0, 1), (36, .getfield 80, 3), (39, .iconst 2, 1), (40, .iaload, 1), (41, .invokevirtual 146, 3), (44, .ifCond .le 7, 3), (47, .iconst 1, 1), (48, .goto 4, 3), (51, .iconst 0, 1), (52, .istore 7, 2), (54, .aload_n 0, 1), (55, .getfield 40, 3), (58, .iload 6, 2), (60, .dup2, 1), (61, .iaload, 1), (62, .iload 7, 2)], [(64, .ifCond .eq 40, 3), (67, .iload 4, 2), (69, .aload_n 0, 1), (70, .getfield 37, 3), (73, .iconst 3, 1), (74, .iload 6, 2), (76, .imul, 1), (77, .iconst 1, 1), (78, .iadd, 1), (79, .iaload, 1), (80, .aload_n 0, 1), (81, .getfield 34, 3), (84, .iconst 3, 1), (85, .iload 6, 2), (87, .imul, 1), (88, .iconst 1, 1), (89, .iadd, 1), (90, .iaload, 1), (91, .iadd, 1), (92, .if_icmp .lt 12, 3), (95, .aload_n 0, 1), (96, .getfield 16, 3), (99, .iload_n 1, 1), (100, .iaload, 1), (101, .goto 4, 3), (104, .iconst 0, 1), (105, .iadd, 1), (106, .iastore, 1), (107, .iinc 6 1, 3), (110, .goto (-107), 3), (113, .aload_n 0, 1), (114, .getfield 28, 3), (117, .aload_n 0, 1), (118, .getfield 140, 3), (121, .iload_n 1, 1), (122, .iastore, 1), (123, .aload_n 0, 1), (124, .getfield 31, 3), (127, .aload_n 0, 1)], [(128, .getfield 140, 3), (131, .iload_n 2, 1), (132, .iastore, 1), (133, .aload_n 0, 1), (134, .getfield 40, 3), (137, .aload_n 0, 1), (138, .getfield 140, 3), (141, .iconst 0, 1), (142, .iastore, 1), (143, .aload_n 0, 1), (144, .getfield 43, 3), (147, .iload_n 1, 1), (148, .iconst 1, 1), (149, .bastore, 1), (150, .aload_n 0, 1), (151, .getfield 37, 3), (154, .iconst 3, 1), (155, .aload_n 0, 1), (156, .getfield 140, 3), (159, .imul, 1), (160, .iload_n 3, 1), (161, .iastore, 1), (162, .aload_n 0, 1), (163, .getfield 37, 3), (166, .iconst 3, 1), (167, .aload_n 0, 1), (168, .getfield 140, 3), (171, .imul, 1), (172, .iconst 1, 1), (173, .iadd, 1), (174, .iload 4, 2), (176, .iastore, 1), (177, .aload_n 0, 1), (178, .getfield 37, 3), (181, .iconst 3, 1), (182, .aload_n 0, 1), (183, .getfield 140, 3), (186, .imul, 1), (187, .iconst 2, 1), (188, .iadd, 1), (189, .iload 5, 2), (191, .iastore, 1)], [(192, .iconst 0, 1), (193, .istore 6, 2), (195, .iload 6, 2), (197, .iconst 3, 1), (198, .if_icmp .ge 30, 3), (201, .aload_n 0, 1), (202, .getfield 34, 3), (205, .iconst 3, 1), (206, .aload_n 0, 1), (207, .getfield 140, 3), (210, .imul, 1), (211, .iload 6, 2), (213, .iadd, 1), (214, .aload_n 0, 1), (215, .getfield 80, 3), (218, .iload 6, 2), (220, .iaload, 1), (221, .iastore, 1), (222, .iinc 6 1, 3), (225, .goto (-30), 3), (228, .aload_n 0, 1), (229, .dup, 1), (230, .getfield 140, 3), (233, .iconst 1, 1), (234, .iadd, 1), (235, .putfield 140, 3), (238, .return_, 1)]]
def tb_c136 : List (List (Nat × ClassFile.Instr × Nat)) := [[(0, .lconst 0, 1), (1, .lstore_n 1, 1), (2, .lconst 0, 1), (3, .lstore_n 3, 1), (4, .iconst 0, 1), (5, .istore 5, 2), (7, .iload 5, 2), (9, .aload_n 0, 1), (10, .getfield 140, 3), (13, .if_icmp .ge 67, 3), (16, .lload_n 1, 1), (17, .aload_n 0, 1), (18, .aload_n 0, 1), (19, .getfield 28, 3), (22, .iload 5, 2), (24, .iaload, 1), (25, .invokevirtual 137, 3), (28, .i2l, 1), (29, .ladd, 1), (30, .lstore_n 1, 1), (31, .lload_n 3, 1), (32, .aload_n 0, 1), (33, .getfield 16, 3), (36, .aload_n 0, 1), (37, .getfield 28, 3), (40, .iload 5, 2), (42, .iaload, 1), (43, .iaload, 1), (44, .i2l, 1), (45, .iconst 2, 1), (46, .aload_n 0, 1), (47, .getfield 37, 3), (50, .iconst 3, 1), (51, .iload 5, 2), (53, .imul, 1), (54, .iconst 1, 1), (55, .iadd, 1), (56, .iaload, 1), (57, .imul, 1), (58, .aload_n 0, 1), (59, .getfield 34, 3), (62, .iconst 3, 1), (63, .iload 5, 2)], [(65, .imul, 1), (66, .iconst 1, 1), (67, .iadd, 1), (68, .iaload, 1), (69, .iadd, 1), (70, .i2l, 1), (71, .lmul, 1), (72, .ladd, 1), (73, .lstore_n 3, 1), (74, .iinc 5 1, 3), (77, .goto (-70), 3), (80, .lload_n 1, 1), (81, .aload_n 0, 1), (82, .getfield 105, 3), (85, .lcmp, 1), (86, .ifCond .lt 21, 3), (89, .lload_n 1, 1), (90, .aload_n 0, 1), (91, .getfield 105, 3), (94, .lcmp, 1), (95, .ifCond .ne 13, 3), (98, .lload_n 3, 1), (99, .aload_n 0, 1), (100, .getfield 109, 3), (103, .lcmp, 1), (104, .ifCond .lt 4, 3), (107, .return_, 1), (108, .aload_n 0, 1), (109, .lload_n 1, 1), (110, .putfield 105, 3), (113, .aload_n 0, 1), (114, .lload_n 3, 1), (115, .putfield 109, 3), (118, .aload_n 0, 1), (119, .aload_n 0, 1), (120, .getfield 140, 3), (123, .putfield 102, 3), (126, .iconst 0, 1), (127, .istore 5, 2)], [(129, .iload 5, 2), (131, .aload_n 0, 1), (132, .getfield 140, 3), (135, .if_icmp .ge 51, 3), (138, .aload_n 0, 1), (139, .getfield 62, 3), (142, .iload 5, 2), (144, .aload_n 0, 1), (145, .getfield 28, 3), (148, .iload 5, 2), (150, .iaload, 1), (151, .iastore, 1), (152, .aload_n 0, 1), (153, .getfield 65, 3), (156, .iload 5, 2), (158, .aload_n 0, 1), (159, .getfield 31, 3), (162, .iload 5, 2), (164, .iaload, 1), (165, .iastore, 1), (166, .aload_n 0, 1), (167, .getfield 74, 3), (170, .iload 5, 2), (172, .aload_n 0, 1), (173, .getfield 40, 3), (176, .iload 5, 2), (178, .iaload, 1), (179, .iastore, 1), (180, .iinc 5 1, 3), (183, .goto (-54), 3), (186, .iconst 0, 1), (187, .istore 5, 2), (189, .iload 5, 2), (191, .iconst 3, 1)], [(192, .aload_n 0, 1), (193, .getfield 140, 3), (196, .imul, 1), (197, .if_icmp .ge 37, 3), (200, .aload_n 0, 1), (201, .getfield 68, 3), (204, .iload 5, 2), (206, .aload_n 0, 1), (207, .getfield 34, 3), (210, .iload 5, 2), (212, .iaload, 1), (213, .iastore, 1), (214, .aload_n 0, 1), (215, .getfield 71, 3), (218, .iload 5, 2), (220, .aload_n 0, 1), (221, .getfield 37, 3), (224, .iload 5, 2), (226, .iaload, 1), (227, .iastore, 1), (228, .iinc 5 1, 3), (231, .goto (-42), 3), (234, .return_, 1)]]
def tb_c137 : List (List (Nat × ClassFile.Instr × Nat)) := [[(0, .aload_n 0, 1), (1, .dup, 1), (2, .getfield 140, 3), (5, .iconst 1, 1), (6, .isub, 1), (7, .putfield 140, 3), (10, .aload_n 0, 1), (11, .getfield 28, 3), (14, .aload_n 0, 1), (15, .getfield 140, 3), (18, .iaload, 1), (19, .istore_n 1, 1), (20, .aload_n 0, 1), (21, .getfield 43, 3), (24, .iload_n 1, 1), (25, .iconst 0, 1), (26, .bastore, 1), (27, .iconst 0, 1), (28, .istore_n 2, 1), (29, .iload_n 2, 1), (30, .aload_n 0, 1), (31, .getfield 140, 3), (34, .if_icmp .ge 141, 3), (37, .aload_n 0, 1), (38, .iload_n 2, 1), (39, .iconst 0, 1), (40, .aload_n 0, 1), (41, .getfield 37, 3), (44, .iconst 3, 1), (45, .aload_n 0, 1), (46, .getfield 140, 3), (49, .imul, 1), (50, .iaload, 1), (51, .aload_n 0, 1), (52, .getfield 34, 3), (55, .iconst 3, 1), (56, .aload_n 0, 1), (57, .getfield 140, 3), (60, .imul, 1), (61, .iaload, 1), (62, .invokevirtual 146, 3)], [(65, .ifCond .le 42, 3), (68, .aload_n 0, 1), (69, .iload_n 2, 1), (70, .iconst 2, 1), (71, .aload_n 0, 1), (72, .getfield 37, 3), (75, .iconst 3, 1), (76, .aload_n 0, 1), (77, .getfield 140, 3), (80, .imul, 1), (81, .iconst 2, 1), (82, .iadd, 1), (83, .iaload, 1), (84, .aload_n 0, 1), (85, .getfield 34, 3), (88, .iconst 3, 1), (89, .aload_n 0, 1), (90, .getfield 140, 3), (93, .imul, 1), (94, .iconst 2, 1), (95, .iadd, 1), (96, .iaload, 1), (97, .invokevirtual 146, 3), (100, .ifCond .le 7, 3), (103, .iconst 1, 1), (104, .goto 4, 3), (107, .iconst 0, 1), (108, .istore_n 3, 1), (109, .aload_n 0, 1), (110, .getfield 40, 3), (113, .iload_n 2, 1), (114, .dup2, 1), (115, .iaload, 1), (116, .iload_n 3, 1), (117, .ifCond .eq 49, 3), (120, .aload_n 0, 1), (121, .getfield 37, 3), (124, .iconst 3, 1), (125, .aload_n 0, 1), (126, .getfield 140, 3)], [(129, .imul, 1), (130, .iconst 1, 1), (131, .iadd, 1), (132, .iaload, 1), (133, .aload_n 0, 1), (134, .getfield 37, 3), (137, .iconst 3, 1), (138, .iload_n 2, 1), (139, .imul, 1), (140, .iconst 1, 1), (141, .iadd, 1), (142, .iaload, 1), (143, .aload_n 0, 1), (144, .getfield 34, 3), (147, .iconst 3, 1), (148, .iload_n 2, 1), (149, .imul, 1), (150, .iconst 1, 1), (151, .iadd, 1), (152, .iaload, 1), (153, .iadd, 1), (154, .if_icmp .lt 12, 3), (157, .aload_n 0, 1), (158, .getfield 16, 3), (161, .iload_n 1, 1), (162, .iaload, 1), (163, .goto 4, 3), (166, .iconst 0, 1), (167, .isub, 1), (168, .iastore, 1), (169, .iinc 2 1, 3), (172, .goto (-143), 3), (175, .return_, 1)]]
def tb_c138 : List (List (Nat × ClassFile.Instr × Nat)) := [[(0, .aload_n 0, 1), (1, .iconst 0, 1), (2, .putfield 87, 3), (5, .aload_n 0, 1), (6, .getfield 98, 3), (9, .ifCond .eq 14, 3), (12, .aload_n 0, 1), (13, .getfield 163, 3), (16, .ifCond .ne 7, 3), (19, .iconst 1, 1), (20, .goto 4, 3), (23, .iconst 0, 1), (24, .ireturn, 1)]]
def tb_c139 : List (List (Nat × ClassFile.Instr × Nat)) := [[(0, .aload_n 0, 1), (1, .iconst 0, 1), (2, .putfield 87, 3), (5, .aload_n 0, 1), (6, .getfield 98, 3), (9, .ifCond .eq 10, 3), (12, .aload_n 0, 1), (13, .getfield 166, 3), (16, .goto 4, 3), (19, .iconst (-1), 1), (20, .ireturn, 1)]]
def tb_c140 : List (List (Nat × ClassFile.Instr × Nat)) := [[(0, .aload_n 0, 1), (1, .aload_n 0, 1), (2, .iload_n 1, 1), (3, .invokevirtual 116, 3), (6, .ifCond .ne 7, 3), (9, .iconst 1, 1), (10, .goto 17, 3), (13, .iload_n 2, 1), (14, .iconst 0, 1), (15, .iconst 5, 1), (16, .invokestatic 94, 3), (19, .ifCond .eq 7, 3), (22, .iconst 0, 1), (23, .goto 4, 3), (26, .iconst 2, 1), (27, .putfield 87, 3), (30, .aload_n 0, 1), (31, .getfield 87, 3), (34, .ifCond .le 5, 3), (37, .iconst 0, 1), (38, .ireturn, 1), (39, .aload_n 0, 1), (40, .iload_n 1, 1), (41, .invokevirtual 186, 3), (44, .istore_n 3, 1), (45, .iload_n 3, 1), (46, .ifCond .ge 5, 3), (49, .iconst (-1), 1), (50, .ireturn, 1), (51, .iload_n 2, 1), (52, .iconst 3, 1), (53, .if_icmp .ge 16, 3), (56, .aload_n 0, 1), (57, .getfield 71, 3), (60, .iconst 3, 1), (61, .iload_n 3, 1), (62, .imul, 1), (63, .iload_n 2, 1)], [(64, .iadd, 1), (65, .iaload, 1), (66, .goto 32, 3), (69, .iload_n 2, 1), (70, .iconst 3, 1), (71, .if_icmp .ne 12, 3), (74, .aload_n 0, 1), (75, .getfield 65, 3), (78, .iload_n 3, 1), (79, .iaload, 1), (80, .goto 18, 3), (83, .iload_n 2, 1), (84, .iconst 4, 1), (85, .if_icmp .ne 7, 3), (88, .iload_n 3, 1), (89, .goto 9, 3), (92, .aload_n 0, 1), (93, .getfield 74, 3), (96, .iload_n 3, 1), (97, .iaload, 1), (98, .ireturn, 1)]]
def tb_c141 : List (List (Nat × ClassFile.Instr × Nat)) := [[(0, .iconst 0, 1), (1, .istore_n 2, 1), (2, .iload_n 2, 1), (3, .aload_n 0, 1), (4, .getfield 102, 3), (7, .if_icmp .ge 21, 3), (10, .aload_n 0, 1), (11, .getfield 62, 3), (14, .iload_n 2, 1), (15, .iaload, 1), (16, .iload_n 1, 1), (17, .if_icmp .ne 5, 3), (20, .iload_n 2, 1), (21, .ireturn, 1), (22, .iinc 2 1, 3), (25, .goto (-23), 3), (28, .iconst (-1), 1), (29, .ireturn, 1)]]
def tb_c142 : List (List (Nat × ClassFile.Instr × Nat)) := [[(0, .aload_n 0, 1), (1, .iconst 0, 1), (2, .putfield 87, 3), (5, .aload_n 0, 1), (6, .getfield 109, 3), (9, .lreturn, 1)]]
def tb_c143 : List (List (Nat × ClassFile.Instr × Nat)) := [[(0, .aload_n 0, 1), (1, .aload_n 0, 1), (2, .iload_n 1, 1), (3, .invokevirtual 116, 3), (6, .ifCond .eq 15, 3), (9, .aload_n 0, 1), (10, .iload_n 2, 1), (11, .invokevirtual 116, 3), (14, .ifCond .eq 7, 3), (17, .iconst 0, 1), (18, .goto 4, 3), (21, .iconst 1, 1), (22, .putfield 87, 3), (25, .aload_n 0, 1), (26, .iload_n 1, 1), (27, .invokevirtual 186, 3), (30, .istore_n 3, 1), (31, .aload_n 0, 1), (32, .iload_n 2, 1), (33, .invokevirtual 186, 3), (36, .istore 4, 2), (38, .aload_n 0, 1), (39, .getfield 87, 3), (42, .ifCond .gt 47, 3), (45, .iload_n 3, 1), (46, .ifCond .lt 43, 3), (49, .iload 4, 2), (51, .ifCond .lt 38, 3), (54, .aload_n 0, 1), (55, .getfield 71, 3), (58, .iconst 3, 1), (59, .iload_n 3, 1), (60, .imul, 1), (61, .iconst 1, 1), (62, .iadd, 1), (63, .iaload, 1)], [(64, .aload_n 0, 1), (65, .getfield 68, 3), (68, .iconst 3, 1), (69, .iload_n 3, 1), (70, .imul, 1), (71, .iconst 1, 1), (72, .iadd, 1), (73, .iaload, 1), (74, .iadd, 1), (75, .aload_n 0, 1), (76, .getfield 71, 3), (79, .iconst 3, 1), (80, .iload 4, 2), (82, .imul, 1), (83, .iconst 1, 1), (84, .iadd, 1), (85, .iaload, 1), (86, .if_icmp .eq 5, 3), (89, .iconst 0, 1), (90, .ireturn, 1), (91, .aload_n 0, 1), (92, .getfield 71, 3), (95, .iconst 3, 1), (96, .iload_n 3, 1), (97, .imul, 1), (98, .iaload, 1), (99, .aload_n 0, 1), (100, .getfield 68, 3), (103, .iconst 3, 1), (104, .iload_n 3, 1), (105, .imul, 1), (106, .iaload, 1), (107, .aload_n 0, 1), (108, .getfield 71, 3), (111, .iconst 3, 1), (112, .iload 4, 2), (114, .imul, 1), (115, .iaload, 1), (116, .aload_n 0, 1), (117, .getfield 68, 3), (120, .iconst 3, 1), (121, .iload 4, 2), (123, .imul, 1), (124, .iaload, 1), (125, .invokestatic 189, 3)], [(128, .istore 5, 2), (130, .iload 5, 2), (132, .aload_n 0, 1), (133, .getfield 71, 3), (136, .iconst 3, 1), (137, .iload_n 3, 1), (138, .imul, 1), (139, .iconst 2, 1), (140, .iadd, 1), (141, .iaload, 1), (142, .aload_n 0, 1), (143, .getfield 68, 3), (146, .iconst 3, 1), (147, .iload_n 3, 1), (148, .imul, 1), (149, .iconst 2, 1), (150, .iadd, 1), (151, .iaload, 1), (152, .aload_n 0, 1), (153, .getfield 71, 3), (156, .iconst 3, 1), (157, .iload 4, 2), (159, .imul, 1), (160, .iconst 2, 1), (161, .iadd, 1), (162, .iaload, 1), (163, .aload_n 0, 1), (164, .getfield 68, 3), (167, .iconst 3, 1), (168, .iload 4, 2), (170, .imul, 1), (171, .iconst 2, 1), (172, .iadd, 1), (173, .iaload, 1), (174, .invokestatic 189, 3), (177, .imul, 1), (178, .ireturn, 1)]]
def tb_c144 : List (List (Nat × ClassFile.Instr × Nat)) := [[(0, .iload_n 0, 1), (1, .iload_n 2, 1), (2, .if_icmp .le 7, 3), (5, .iload_n 0, 1), (6, .goto 4, 3), (9, .iload_n 2, 1), (10, .istore 4, 2), (12, .iload_n 0, 1), (13, .iload_n 1, 1), (14, .iadd, 1), (15, .iload_n 2, 1), (16, .iload_n 3, 1), (17, .iadd, 1), (18, .if_icmp .ge 9, 3), (21, .iload_n 0, 1), (22, .iload_n 1, 1), (23, .iadd, 1), (24, .goto 6, 3), (27, .iload_n 2, 1), (28, .iload_n 3, 1), (29, .iadd, 1), (30, .istore 5, 2), (32, .iload 5, 2), (34, .iload 4, 2), (36, .if_icmp .le 11, 3), (39, .iload 5, 2), (41, .iload 4, 2), (43, .isub, 1), (44, .goto 4, 3), (47, .iconst 0, 1), (48, .ireturn, 1)]]
def tb_c145 : List (List (Nat × ClassFile.Instr × Nat)) := [[(0, .iload_n 1, 1), (1, .iconst 0, 1), (2, .sipush 1000, 3), (5, .invokestatic 94, 3), (8, .ifCond .eq 29, 3), (11, .aload_n 0, 1), (12, .getfield 192, 3), (15, .ifCond .eq 18, 3), (18, .iload_n 1, 1), (19, .aload_n 0, 1), (20, .getfield 77, 3), (23, .aload_n 0, 1), (24, .getfield 192, 3), (27, .iconst 1, 1), (28, .isub, 1), (29, .iaload, 1), (30, .if_icmp .le 7, 3), (33, .iconst 1, 1), (34, .goto 4, 3), (37, .iconst 0, 1), (38, .istore_n 2, 1), (39, .aload_n 0, 1), (40, .iload_n 2, 1), (41, .ifCond .ne 7, 3), (44, .iconst 1, 1), (45, .goto 17, 3), (48, .aload_n 0, 1), (49, .getfield 192, 3), (52, .bipush 6, 2), (54, .if_icmp .ne 7, 3), (57, .iconst 2, 1), (58, .goto 4, 3), (61, .iconst 0, 1), (62, .putfield 87, 3)], [(65, .aload_n 0, 1), (66, .getfield 87, 3), (69, .ifCond .le 5, 3), (72, .iconst 0, 1), (73, .ireturn, 1), (74, .aload_n 0, 1), (75, .getfield 77, 3), (78, .aload_n 0, 1), (79, .getfield 192, 3), (82, .iload_n 1, 1), (83, .iastore, 1), (84, .aload_n 0, 1), (85, .dup, 1), (86, .getfield 192, 3), (89, .iconst 1, 1), (90, .iadd, 1), (91, .putfield 192, 3), (94, .aload_n 0, 1), (95, .getfield 192, 3), (98, .iconst 1, 1), (99, .isub, 1), (100, .ireturn, 1)]]
def tb_c146 : List (List (Nat × ClassFile.Instr × Nat)) := [[(0, .aload_n 0, 1), (1, .aload_n 0, 1), (2, .getfield 192, 3), (5, .ifCond .ne 7, 3), (8, .iconst 1, 1), (9, .goto 35, 3), (12, .iload_n 1, 1), (13, .iconst 0, 1), (14, .aload_n 0, 1), (15, .getfield 192, 3), (18, .iconst 1, 1), (19, .isub, 1), (20, .invokestatic 94, 3), (23, .ifCond .ne 7, 3), (26, .iconst 2, 1), (27, .goto 17, 3), (30, .iload_n 2, 1), (31, .iconst 0, 1), (32, .iconst 1, 1), (33, .invokestatic 94, 3), (36, .ifCond .eq 7, 3), (39, .iconst 0, 1), (40, .goto 4, 3), (43, .iconst 3, 1), (44, .putfield 87, 3), (47, .aload_n 0, 1), (48, .getfield 87, 3), (51, .ifCond .le 5, 3), (54, .lconst 0, 1), (55, .lreturn, 1), (56, .lconst 0, 1), (57, .lstore_n 3, 1), (58, .lconst 0, 1), (59, .lstore 5, 2), (61, .iconst 0, 1), (62, .istore 7, 2)], [(64, .iload 7, 2), (66, .aload_n 0, 1), (67, .getfield 102, 3), (70, .if_icmp .ge 138, 3), (73, .aload_n 0, 1), (74, .getfield 16, 3), (77, .aload_n 0, 1), (78, .getfield 62, 3), (81, .iload 7, 2), (83, .iaload, 1), (84, .iaload, 1), (85, .istore 8, 2), (87, .iconst 2, 1), (88, .aload_n 0, 1), (89, .getfield 71, 3), (92, .iconst 3, 1), (93, .iload 7, 2), (95, .imul, 1), (96, .iconst 2, 1), (97, .iadd, 1), (98, .iaload, 1), (99, .imul, 1), (100, .aload_n 0, 1), (101, .getfield 68, 3), (104, .iconst 3, 1), (105, .iload 7, 2), (107, .imul, 1), (108, .iconst 2, 1), (109, .iadd, 1), (110, .iaload, 1), (111, .iadd, 1), (112, .istore 9, 2), (114, .aload_n 0, 1), (115, .iload 9, 2), (117, .invokevirtual 195, 3), (120, .istore 10, 2), (122, .aload_n 0, 1), (123, .getfield 192, 3), (126, .iconst 1, 1), (127, .if_icmp .ne 14, 3)], [(130, .lload 5, 2), (132, .iload 8, 2), (134, .i2l, 1), (135, .ladd, 1), (136, .lstore 5, 2), (138, .goto 64, 3), (141, .iload 10, 2), (143, .iload_n 1, 1), (144, .if_icmp .ne 30, 3), (147, .lload 5, 2), (149, .iload 8, 2), (151, .i2l, 1), (152, .iconst 2, 1), (153, .aload_n 0, 1), (154, .getfield 77, 3), (157, .iload 10, 2), (159, .iconst 1, 1), (160, .iadd, 1), (161, .iaload, 1), (162, .imul, 1), (163, .iload 9, 2), (165, .isub, 1), (166, .i2l, 1), (167, .lmul, 1), (168, .ladd, 1), (169, .lstore 5, 2), (171, .goto 31, 3), (174, .iload 10, 2), (176, .iload_n 1, 1), (177, .iconst 1, 1), (178, .isub, 1), (179, .if_icmp .ne 23, 3), (182, .lload_n 3, 1), (183, .iload 8, 2), (185, .i2l, 1), (186, .iload 9, 2), (188, .iconst 2, 1), (189, .aload_n 0, 1), (190, .getfield 77, 3)], [(193, .iload 10, 2), (195, .iaload, 1), (196, .imul, 1), (197, .isub, 1), (198, .i2l, 1), (199, .lmul, 1), (200, .ladd, 1), (201, .lstore_n 3, 1), (202, .iinc 7 1, 3), (205, .goto (-141), 3), (208, .iload_n 1, 1), (209, .ifCond .ne 7, 3), (212, .lconst 1, 1), (213, .goto 23, 3), (216, .ldc2_w 198, 3), (219, .aload_n 0, 1), (220, .getfield 77, 3), (223, .iload_n 1, 1), (224, .iaload, 1), (225, .aload_n 0, 1), (226, .getfield 77, 3), (229, .iload_n 1, 1), (230, .iconst 1, 1), (231, .isub, 1), (232, .iaload, 1), (233, .isub, 1), (234, .i2l, 1), (235, .lmul, 1), (236, .lstore 7, 2), (238, .iload_n 1, 1), (239, .aload_n 0, 1), (240, .getfield 192, 3), (243, .iconst 1, 1), (244, .isub, 1), (245, .if_icmp .ne 7, 3), (248, .lconst 1, 1), (249, .goto 23, 3), (252, .ldc2_w 198, 3), (255, .aload_n 0, 1)], [(256, .getfield 77, 3), (259, .iload_n 1, 1), (260, .iconst 1, 1), (261, .iadd, 1), (262, .iaload, 1), (263, .aload_n 0, 1), (264, .getfield 77, 3), (267, .iload_n 1, 1), (268, .iaload, 1), (269, .isub, 1), (270, .i2l, 1), (271, .lmul, 1), (272, .lstore 9, 2), (274, .lload_n 3, 1), (275, .lload 9, 2), (277, .lmul, 1), (278, .lload 5, 2), (280, .lload 7, 2), (282, .lmul, 1), (283, .ladd, 1), (284, .lstore 11, 2), (286, .lload 7, 2), (288, .lload 9, 2), (290, .lmul, 1), (291, .lstore 13, 2), (293, .lload 11, 2), (295, .lload 13, 2), (297, .invokestatic 200, 3), (300, .lstore 15, 2), (302, .iload_n 2, 1), (303, .ifCond .ne 11, 3), (306, .lload 11, 2), (308, .lload 15, 2), (310, .ldiv, 1), (311, .goto 8, 3), (314, .lload 13, 2), (316, .lload 15, 2), (318, .ldiv, 1), (319, .lreturn, 1)]]
def tb_c147 : List (List (Nat × ClassFile.Instr × Nat)) := [[(0, .iconst 0, 1), (1, .istore_n 2, 1), (2, .iload_n 2, 1), (3, .aload_n 0, 1), (4, .getfield 192, 3), (7, .iconst 2, 1), (8, .isub, 1), (9, .if_icmp .ge 23, 3), (12, .iload_n 1, 1), (13, .iconst 2, 1), (14, .aload_n 0, 1), (15, .getfield 77, 3), (18, .iload_n 2, 1), (19, .iconst 1, 1), (20, .iadd, 1), (21, .iaload, 1), (22, .imul, 1), (23, .if_icmp .lt 9, 3), (26, .iinc 2 1, 3), (29, .goto (-27), 3), (32, .iload_n 2, 1), (33, .ireturn, 1)]]
def tb_c148 : List (List (Nat × ClassFile.Instr × Nat)) := [[(0, .lload_n 0, 1), (1, .lconst 0, 1), (2, .lcmp, 1), (3, .ifCond .ge 8, 3), (6, .lload_n 0, 1), (7, .lneg, 1), (8, .goto 4, 3), (11, .lload_n 0, 1), (12, .lstore 4, 2), (14, .lload_n 2, 1), (15, .lstore 6, 2), (17, .lload 6, 2), (19, .lconst 0, 1), (20, .lcmp, 1), (21, .ifCond .eq 21, 3), (24, .lload 4, 2), (26, .lload 6, 2), (28, .lrem, 1), (29, .lstore 8, 2), (31, .lload 6, 2), (33, .lstore 4, 2), (35, .lload 8, 2), (37, .lstore 6, 2), (39, .goto (-22), 3), (42, .lload 4, 2), (44, .lreturn, 1)]]
def tb_ins : List (List (List (Nat × ClassFile.Instr × Nat))) := [tb_c0, tb_c1, tb_c2, tb_c3, tb_c4, tb_c5, tb_c6, tb_c7, tb_c8, tb_c9, tb_c10, tb_c11, tb_c12, tb_c13, tb_c14, tb_c15, tb_c16, tb_c17, tb_c18, tb_c19, tb_c20, tb_c21, tb_c22, tb_c23, tb_c24, tb_c25, tb_c26, tb_c27, tb_c28, tb_c29, tb_c30, tb_c31, tb_c32, tb_c33, tb_c34, tb_c35, tb_c36, tb_c37, tb_c38, tb_c39, tb_c40, tb_c41, tb_c42, tb_c43, tb_c44, tb_c45, tb_c46, tb_c47, tb_c48, tb_c49, tb_c50, tb_c51, tb_c52, tb_c53, tb_c54, tb_c55, tb_c56, tb_c57, tb_c58, tb_c59, tb_c60, tb_c61, tb_c62, tb_c63, tb_c64, tb_c65, tb_c66, tb_c67, tb_c68, tb_c69, tb_c70, tb_c71, tb_c72, tb_c73, tb_c74, tb_c75, tb_c76, tb_c77, tb_c78, tb_c79, tb_c80, tb_c81, tb_c82, tb_c83, tb_c84, tb_c85, tb_c86, tb_c87, tb_c88, tb_c89, tb_c90, tb_c91, tb_c92, tb_c93, tb_c94, tb_c95, tb_c96, tb_c97, tb_c98, tb_c99, tb_c100, tb_c101, tb_c102, tb_c103, tb_c104, tb_c105, tb_c106, tb_c107, tb_c108, tb_c109, tb_c110, tb_c111, tb_c112, tb_c113, tb_c114, tb_c115, tb_c116, tb_c117, tb_c118, tb_c119, tb_c120, tb_c121, tb_c122, tb_c123, tb_c124, tb_c125, tb_c126, tb_c127, tb_c128, tb_c129, tb_c130, tb_c131, tb_c132, tb_c133, tb_c134, tb_c135, tb_c136, tb_c137, tb_c138, tb_c139, tb_c140, tb_c141, tb_c142, tb_c143, tb_c144, tb_c145, tb_c146, tb_c147, tb_c148]
/-- fields by entry: (class, entry), (kind, place, type), the word's place, whether a nest mate's -/
def tb_fld : List ((Nat × Nat) × (Nat × Nat × Nat) × Nat × Bool) := [((0, 9), (0, 0, 2), 369, false), ((0, 15), (0, 1, 0), 370, false), ((0, 42), (7, 1, 0), 264, true), ((0, 47), (7, 0, 2), 261, true), ((0, 51), (6, 5, 0), 196, true), ((0, 56), (6, 11, 0), 215, true), ((0, 62), (6, 12, 0), 218, true), ((1, 7), (1, 0, 0), 83, false), ((1, 13), (1, 1, 0), 86, false), ((1, 16), (1, 2, 0), 89, false), ((2, 11), (2, 0, 2), 153, false), ((2, 20), (2, 1, 0), 155, false), ((2, 43), (5, 2, 0), 117, true), ((3, 11), (3, 0, 2), 286, false), ((3, 16), (3, 1, 2), 287, false), ((4, 7), (4, 0, 0), 301, false), ((4, 13), (1, 0, 0), 84, true), ((4, 18), (1, 2, 0), 90, true), ((4, 21), (4, 1, 0), 303, false), ((4, 24), (4, 2, 0), 305, false), ((4, 27), (4, 3, 0), 307, false), ((4, 30), (4, 4, 0), 309, false), ((4, 33), (4, 5, 0), 311, false), ((4, 36), (7, 1, 0), 263, true), ((4, 41), (7, 0, 2), 259, true), ((4, 45), (6, 7, 0), 200, true), ((4, 54), (6, 9, 0), 207, true), ((4, 55), (6, 11, 0), 213, true), ((4, 56), (6, 3, 0), 187, true), ((4, 65), (6, 6, 0), 198, true), ((4, 69), (6, 5, 0), 193, true), ((4, 72), (6, 8, 0), 204, true), ((5, 9), (5, 1, 2), 113, false), ((5, 15), (5, 0, 2), 112, false), ((5, 19), (5, 3, 0), 118, false), ((5, 23), (5, 4, 0), 119, false), ((5, 26), (5, 5, 0), 120, false), ((5, 29), (5, 6, 0), 121, false), ((5, 32), (5, 8, 0), 125, false), ((5, 36), (5, 9, 0), 128, false), ((5, 43), (5, 7, 0), 123, false), ((5, 46), (5, 2, 0), 115, false), ((5, 73), (1, 0, 0), 85, true), ((5, 76), (1, 1, 0), 88, true), ((5, 77), (1, 2, 0), 91, true), ((6, 7), (6, 0, 0), 181, false), ((6, 13), (6, 1, 0), 183, false), ((6, 16), (6, 2, 0), 185, false), ((6, 25), (6, 9, 0), 206, false), ((6, 31), (6, 10, 0), 210, false), ((6, 37), (6, 11, 0), 212, false), ((6, 40), (5, 6, 0), 122, true), ((6, 43), (6, 12, 0), 217, false), ((6, 44), (5, 8, 0), 126, true), ((6, 47), (6, 13, 0), 220, false), ((6, 48), (5, 9, 0), 129, true), ((6, 51), (6, 14, 0), 221, false), ((6, 52), (6, 15, 0), 223, false), ((6, 55), (6, 3, 0), 186, false), ((6, 58), (6, 4, 0), 189, false), ((6, 61), (6, 5, 0), 192, false), ((6, 64), (6, 6, 0), 197, false), ((6, 67), (6, 7, 0), 201, false), ((6, 70), (6, 8, 0), 203, false), ((7, 11), (7, 0, 2), 258, false), ((7, 20), (7, 1, 0), 262, false), ((7, 24), (7, 2, 0), 265, false), ((7, 27), (7, 3, 1), 267, false), ((7, 35), (6, 1, 0), 184, true), ((7, 38), (6, 4, 0), 190, true), ((7, 41), (6, 5, 0), 194, true), ((7, 70), (6, 9, 0), 209, true), ((7, 73), (6, 11, 0), 216, true), ((7, 76), (6, 15, 0), 224, true), ((7, 79), (6, 12, 0), 219, true), ((7, 82), (6, 14, 0), 222, true), ((7, 95), (6, 10, 0), 211, true), ((8, 12), (8, 2, 2), 328, false), ((8, 18), (8, 3, 2), 329, false), ((8, 24), (8, 4, 2), 331, false), ((8, 28), (8, 5, 2), 332, false), ((8, 31), (8, 6, 2), 333, false), ((8, 36), (8, 7, 2), 334, false), ((8, 40), (8, 9, 0), 336, false), ((8, 44), (8, 0, 2), 326, false), ((8, 48), (8, 1, 2), 327, false), ((8, 56), (8, 8, 0), 335, false), ((8, 59), (8, 10, 3), 338, false), ((8, 67), (7, 0, 2), 260, true), ((8, 71), (2, 1, 0), 156, true), ((8, 76), (2, 0, 2), 154, true), ((8, 84), (5, 1, 2), 114, true), ((8, 114), (6, 0, 0), 182, true), ((8, 117), (4, 0, 0), 302, true), ((8, 123), (6, 4, 0), 191, true), ((8, 128), (6, 7, 0), 202, true), ((8, 131), (1, 1, 0), 87, true), ((8, 136), (6, 9, 0), 208, true), ((8, 139), (6, 11, 0), 214, true), ((8, 142), (4, 1, 0), 304, true), ((8, 149), (4, 4, 0), 310, true), ((8, 163), (6, 5, 0), 195, true), ((8, 166), (6, 8, 0), 205, true), ((8, 169), (4, 5, 0), 312, true), ((8, 173), (6, 3, 0), 188, true), ((8, 176), (4, 2, 0), 306, true), ((8, 179), (6, 6, 0), 199, true), ((8, 182), (4, 3, 0), 308, true), ((9, 18), (9, 0, 2), 377, false), ((9, 27), (9, 1, 2), 378, false), ((9, 36), (9, 2, 2), 379, false), ((9, 43), (9, 3, 2), 380, false), ((9, 86), (5, 7, 0), 124, true), ((9, 98), (5, 8, 0), 127, true), ((9, 104), (5, 9, 0), 130, true), ((9, 107), (5, 2, 0), 116, true), ((9, 118), (8, 3, 2), 330, true), ((9, 122), (7, 2, 0), 266, true), ((9, 127), (8, 9, 0), 337, true), ((9, 130), (8, 10, 3), 339, true), ((9, 158), (7, 3, 1), 268, true), ((9, 178), (0, 1, 0), 371, true), ((10, 7), (10, 1, 2), 914, false), ((10, 13), (10, 3, 2), 916, false), ((10, 16), (10, 4, 2), 917, false), ((10, 19), (10, 5, 2), 918, false), ((10, 22), (10, 6, 2), 919, false), ((10, 25), (10, 7, 2), 920, false), ((10, 28), (10, 9, 2), 922, false), ((10, 31), (10, 10, 2), 923, false), ((10, 34), (10, 11, 2), 924, false), ((10, 37), (10, 12, 2), 925, false), ((10, 40), (10, 13, 2), 926, false), ((10, 43), (10, 14, 2), 927, false), ((10, 47), (10, 15, 2), 928, false), ((10, 50), (10, 16, 2), 929, false), ((10, 53), (10, 17, 2), 930, false), ((10, 56), (10, 18, 2), 931, false), ((10, 59), (10, 19, 2), 932, false), ((10, 62), (10, 26, 2), 939, false), ((10, 65), (10, 27, 2), 940, false), ((10, 68), (10, 28, 2), 941, false), ((10, 71), (10, 29, 2), 942, false), ((10, 74), (10, 30, 2), 943, false), ((10, 77), (10, 32, 2), 945, false), ((10, 80), (10, 33, 2), 946, false), ((10, 87), (10, 0, 0), 913, false), ((10, 91), (10, 2, 0), 915, false), ((10, 98), (10, 20, 3), 933, false), ((10, 102), (10, 23, 0), 936, false), ((10, 105), (10, 24, 1), 937, false), ((10, 109), (10, 25, 1), 938, false), ((10, 140), (10, 8, 0), 921, false), ((10, 163), (10, 21, 3), 934, false), ((10, 166), (10, 22, 0), 935, false), ((10, 192), (10, 31, 0), 944, false)]
/-- calls by entry: (class, entry), the method's number (1000: Object.<init>; 1001 on: an exception's <init> with a text), the word's place, whether a nest mate's -/
def tb_cal : List ((Nat × Nat) × Nat × Nat × Bool) := [((0, 3), 1000, 368, false), ((0, 19), 95, 841, false), ((0, 23), 101, 878, false), ((0, 27), 102, 883, false), ((0, 31), 104, 891, false), ((0, 34), 105, 895, false), ((0, 38), 99, 882, false), ((0, 59), 103, 887, false), ((0, 65), 106, 898, false), ((0, 71), 107, 901, false), ((1, 1), 1000, 82, false), ((2, 3), 1000, 104, false), ((2, 17), 7, 108, false), ((2, 24), 26, 538, false), ((2, 28), 30, 539, false), ((2, 36), 1003, 602, false), ((2, 39), 42, 588, false), ((2, 46), 19, 410, false), ((3, 3), 1000, 283, false), ((3, 20), 55, 666, false), ((3, 24), 3, 779, false), ((4, 1), 1000, 300, false), ((4, 50), 58, 671, false), ((4, 59), 3, 675, false), ((4, 66), 4, 676, false), ((5, 3), 1000, 111, false), ((5, 39), 31, 544, false), ((5, 49), 32, 548, false), ((5, 53), 38, 572, false), ((5, 56), 35, 560, false), ((5, 60), 36, 564, false), ((5, 63), 37, 568, false), ((5, 66), 33, 552, false), ((5, 69), 34, 556, false), ((6, 1), 1000, 180, false), ((6, 19), 35, 685, false), ((6, 28), 36, 686, false), ((6, 34), 37, 687, false), ((6, 73), 3, 737, false), ((6, 79), 4, 738, false), ((7, 3), 1000, 173, false), ((7, 17), 10, 177, false), ((7, 31), 85, 788, false), ((7, 44), 69, 721, false), ((7, 48), 71, 729, false), ((7, 51), 73, 739, false), ((7, 54), 75, 747, false), ((7, 57), 77, 755, false), ((7, 60), 70, 725, false), ((7, 63), 74, 743, false), ((7, 66), 72, 733, false), ((7, 85), 76, 751, false), ((7, 88), 78, 759, false), ((7, 91), 81, 771, false), ((8, 3), 1000, 167, false), ((8, 11), 9, 170, false), ((8, 23), 11, 280, false), ((8, 52), 12, 297, true), ((8, 53), 28, 530, false), ((8, 63), 53, 650, false), ((8, 80), 59, 677, false), ((8, 90), 60, 681, false), ((8, 96), 61, 688, false), ((8, 100), 54, 654, false), ((8, 104), 55, 658, false), ((8, 107), 56, 662, false), ((8, 111), 57, 667, false), ((8, 120), 62, 692, false), ((8, 124), 63, 696, false), ((8, 145), 64, 700, false), ((8, 152), 65, 704, false), ((8, 155), 4, 708, false), ((8, 160), 66, 709, false), ((8, 170), 67, 713, false), ((8, 183), 68, 717, false), ((8, 187), 79, 763, false), ((8, 190), 80, 767, false), ((8, 193), 82, 775, false), ((8, 197), 83, 780, false), ((8, 201), 84, 784, false), ((8, 205), 52, 792, false), ((8, 208), 86, 793, false), ((9, 1), 1000, 65, false), ((9, 9), 2, 70, false), ((9, 15), 5, 79, false), ((9, 24), 6, 101, false), ((9, 33), 8, 164, false), ((9, 42), 13, 365, true), ((9, 47), 24, 430, false), ((9, 55), 1001, 479, false), ((9, 58), 25, 433, false), ((9, 64), 26, 506, false), ((9, 72), 1002, 520, false), ((9, 73), 27, 526, false), ((9, 76), 29, 534, false), ((9, 80), 41, 584, false), ((9, 92), 31, 609, false), ((9, 112), 51, 642, false), ((9, 115), 52, 646, false), ((9, 134), 17, 402, false), ((9, 137), 18, 406, false), ((9, 138), 3, 73, false), ((9, 144), 42, 804, false), ((9, 149), 59, 806, false), ((9, 153), 89, 807, false), ((9, 162), 72, 818, false), ((9, 168), 94, 827, false), ((9, 173), 95, 832, false), ((9, 176), 96, 837, false), ((9, 185), 1004, 860, false), ((9, 186), 99, 866, false), ((9, 193), 1003, 872, false), ((9, 196), 100, 874, false), ((9, 200), 4, 76, false), ((10, 1), 1000, 909, false), ((10, 83), 109, 910, false), ((10, 94), 112, 1024, false), ((10, 113), 113, 1028, false), ((10, 116), 115, 1036, false), ((10, 120), 123, 1068, false), ((10, 124), 121, 1060, false), ((10, 128), 122, 1064, false), ((10, 131), 120, 1056, false), ((10, 134), 119, 1052, false), ((10, 137), 125, 1075, false), ((10, 143), 133, 1107, false), ((10, 146), 134, 1111, false), ((10, 150), 129, 1091, false), ((10, 153), 130, 1095, false), ((10, 156), 131, 1099, false), ((10, 159), 132, 1103, false), ((10, 169), 127, 1083, false), ((10, 172), 128, 1087, false), ((10, 176), 135, 1115, false), ((10, 180), 136, 1119, false), ((10, 183), 137, 1123, false), ((10, 186), 141, 1139, false), ((10, 189), 144, 1151, false), ((10, 195), 147, 1162, false), ((10, 200), 148, 1167, false), ((11, 7), 23, 426, false), ((11, 17), 40, 580, false), ((11, 23), 44, 613, false), ((11, 26), 46, 621, false), ((11, 29), 48, 630, false), ((11, 33), 50, 637, false), ((11, 36), 88, 800, false), ((11, 39), 91, 814, false), ((11, 42), 93, 822, false), ((11, 45), 98, 846, false), ((11, 51), 21, 418, false), ((11, 57), 1, 62, false), ((11, 62), 108, 906, false), ((11, 63), 22, 421, false), ((11, 66), 111, 1020, false), ((11, 67), 110, 1016, false), ((11, 71), 39, 576, false), ((11, 74), 114, 1032, false), ((11, 75), 43, 610, false), ((11, 77), 116, 1040, false), ((11, 78), 45, 618, false), ((11, 80), 117, 1044, false), ((11, 81), 47, 627, false), ((11, 84), 118, 1048, false), ((11, 85), 49, 634, false), ((11, 87), 126, 1079, false), ((11, 88), 14, 390, false), ((11, 92), 138, 1127, false), ((11, 93), 15, 394, false), ((11, 96), 139, 1131, false), ((11, 97), 16, 398, false), ((11, 100), 124, 1071, false), ((11, 101), 87, 797, false), ((11, 103), 140, 1135, false), ((11, 104), 20, 414, false), ((11, 108), 142, 1143, false), ((11, 109), 90, 811, false), ((11, 111), 143, 1147, false), ((11, 112), 92, 819, false), ((11, 114), 145, 1154, false), ((11, 115), 97, 842, false), ((11, 117), 146, 1158, false)]
/-- classes by entry: (class, entry), the kind (20 on: arrays; 30 on: exceptions), fields or 0, the word's place -/
def tb_cla : List ((Nat × Nat) × Nat × Nat) := [((2, 9), 5, 105), ((2, 32), 32, 592), ((3, 9), 26, 284), ((7, 9), 6, 174), ((8, 9), 7, 168), ((8, 21), 3, 278), ((8, 34), 4, 294), ((9, 7), 1, 68), ((9, 22), 2, 99), ((9, 31), 8, 162), ((9, 40), 0, 363), ((9, 51), 30, 436), ((9, 68), 31, 510), ((9, 181), 33, 850), ((9, 189), 32, 870), ((11, 8), 9, 60), ((11, 13), 30, 424), ((11, 15), 31, 425), ((11, 21), 32, 579), ((11, 49), 33, 845), ((11, 60), 10, 904)]
/-- slots of a kind's object -/
def tb_slt : List (Nat × Nat × Nat) := [(0, 2, 364), (1, 3, 69), (2, 2, 100), (3, 2, 279), (4, 6, 296), (5, 10, 107), (6, 16, 176), (7, 4, 169), (8, 11, 163), (9, 4, 61), (10, 34, 905), (30, 6, 437), (31, 6, 511), (32, 6, 593), (33, 6, 851)]
def tb_int : List ((Nat × Nat) × Int32 × Nat) := [((5, 35), 100000, 543), ((9, 101), 100000, 625), ((10, 112), 100000, 1027)]
def tb_lon : List ((Nat × Nat) × Int64 × Nat) := [((10, 198), 2, 1166)]
def tb_str : List ((Nat × Nat) × String × Nat) := [((2, 34), "there is no such piece", 601), ((9, 53), "a length is not 1 .. 200", 478), ((9, 62), "the weight is not 1 .. 10000", 505), ((9, 70), "there are 8 pieces", 519), ((9, 84), "the marks are not 0 .. 3", 608), ((9, 96), "the stop is not 0 .. 9", 617), ((9, 102), "the limit is not 0 .. 100000", 626), ((9, 110), "the steps are not 1 .. 1000", 641), ((9, 147), "what is not 0 .. 5", 805), ((9, 166), "the place is not 0 .. 1000", 826), ((9, 171), "the place is not above the last one's", 831), ((9, 174), "there are 6 axles", 836), ((9, 183), "there is no axle", 859), ((9, 191), "there is no such axle", 871), ((9, 194), "the part is not 0 or 1", 873)]
/-- the places of the words on how fields lie -/
def tb_lay : List (List Nat) := [[372, 374], [92, 94, 96], [157, 159], [288, 290], [313, 315, 317, 319, 321, 323], [131, 133, 135, 137, 139, 141, 143, 145, 147, 149], [225, 227, 229, 231, 233, 235, 237, 239, 241, 243, 245, 247, 249, 251, 253, 255], [269, 271, 273, 275], [340, 342, 344, 346, 348, 350, 352, 354, 356, 358, 360], [381, 383, 385, 387], [947, 949, 951, 953, 955, 957, 959, 961, 963, 965, 967, 969, 971, 973, 975, 977, 979, 981, 983, 985, 987, 989, 991, 993, 995, 997, 999, 1001, 1003, 1005, 1007, 1009, 1011, 1013]]
/-- a method: the places of its words: code, instance or static, selects, initialized -/
def tb_mw : List (Nat × Nat × Nat × Nat) := [(0, 0, 0, 0), (64, 63, 0, 41), (72, 71, 0, 41), (75, 74, 0, 43), (78, 77, 0, 43), (81, 80, 0, 42), (103, 102, 0, 44), (110, 109, 0, 45), (166, 165, 0, 46), (172, 171, 0, 47), (179, 178, 0, 48), (282, 281, 0, 49), (299, 298, 0, 50), (367, 366, 0, 51), (393, 391, 392, 41), (397, 395, 396, 41), (401, 399, 400, 41), (405, 403, 404, 42), (409, 407, 408, 44), (413, 411, 412, 45), (417, 415, 416, 41), (420, 419, 0, 40), (423, 422, 0, 40), (429, 427, 428, 41), (432, 431, 0, 41), (435, 434, 0, 41), (509, 507, 508, 44), (529, 527, 528, 46), (533, 531, 532, 47), (537, 535, 536, 44), (542, 540, 541, 45), (547, 545, 546, 45), (551, 550, 1, 45), (555, 554, 2, 45), (559, 558, 3, 45), (563, 561, 562, 45), (567, 565, 566, 45), (571, 569, 570, 45), (575, 574, 4, 45), (578, 577, 0, 40), (583, 581, 582, 41), (587, 585, 586, 44), (591, 589, 590, 44), (612, 611, 0, 40), (616, 614, 615, 41), (620, 619, 0, 40), (624, 622, 623, 41), (629, 628, 0, 40), (633, 631, 632, 41), (636, 635, 0, 40), (640, 638, 639, 41), (645, 643, 644, 46), (649, 647, 648, 46), (653, 652, 5, 46), (657, 655, 656, 50), (661, 659, 660, 49), (665, 663, 664, 49), (670, 668, 669, 50), (674, 673, 6, 50), (680, 678, 679, 47), (684, 682, 683, 48), (691, 690, 7, 46), (695, 693, 694, 48), (699, 697, 698, 47), (703, 702, 8, 46), (707, 705, 706, 47), (712, 710, 711, 48), (716, 714, 715, 48), (720, 718, 719, 47), (724, 723, 9, 47), (728, 726, 727, 48), (732, 731, 10, 47), (736, 734, 735, 48), (742, 741, 11, 47), (746, 744, 745, 48), (750, 749, 12, 47), (754, 752, 753, 48), (758, 757, 13, 47), (762, 760, 761, 48), (766, 765, 14, 46), (770, 768, 769, 47), (774, 773, 15, 47), (778, 776, 777, 49), (783, 781, 782, 47), (787, 785, 786, 47), (791, 789, 790, 48), (796, 794, 795, 47), (799, 798, 0, 40), (803, 801, 802, 41), (810, 808, 809, 48), (813, 812, 0, 40), (817, 815, 816, 41), (821, 820, 0, 40), (825, 823, 824, 41), (830, 828, 829, 51), (835, 833, 834, 51), (840, 838, 839, 51), (844, 843, 0, 40), (849, 847, 848, 41), (869, 867, 868, 51), (877, 875, 876, 51), (881, 880, 16, 51), (886, 885, 17, 51), (890, 889, 18, 51), (894, 893, 19, 51), (897, 896, 0, 51), (900, 899, 0, 43), (903, 902, 0, 51), (908, 907, 0, 52), (912, 911, 0, 52), (1019, 1017, 1018, 52), (1023, 1021, 1022, 52), (1026, 1025, 0, 52), (1031, 1030, 20, 52), (1035, 1033, 1034, 52), (1039, 1038, 21, 52), (1043, 1041, 1042, 52), (1047, 1045, 1046, 52), (1051, 1049, 1050, 52), (1055, 1054, 22, 52), (1059, 1058, 23, 52), (1063, 1062, 24, 52), (1067, 1066, 25, 52), (1070, 1069, 0, 52), (1074, 1072, 1073, 52), (1078, 1077, 26, 52), (1082, 1080, 1081, 52), (1086, 1085, 27, 52), (1090, 1089, 28, 52), (1094, 1093, 29, 52), (1098, 1097, 30, 52), (1102, 1101, 31, 52), (1106, 1105, 32, 52), (1110, 1109, 33, 52), (1114, 1113, 34, 52), (1118, 1117, 35, 52), (1122, 1121, 36, 52), (1126, 1125, 37, 52), (1130, 1128, 1129, 52), (1134, 1132, 1133, 52), (1138, 1136, 1137, 52), (1142, 1141, 38, 52), (1146, 1144, 1145, 52), (1150, 1148, 1149, 52), (1153, 1152, 0, 52), (1157, 1155, 1156, 52), (1161, 1159, 1160, 52), (1165, 1164, 39, 52), (1169, 1168, 0, 52)]
/-- kinds: the name, the place of the word that it is initialised -/
def tb_kin : List (Nat × String × Nat) := [(0, "LoadRoom$Axles", 51), (1, "LoadRoom$Box", 42), (2, "LoadRoom$Cargo", 44), (3, "LoadRoom$Ends", 49), (4, "LoadRoom$Floor", 50), (5, "LoadRoom$Piece", 45), (6, "LoadRoom$Placed", 48), (7, "LoadRoom$Row", 47), (8, "LoadRoom$Search", 46), (9, "LoadRoom", 41), (10, "LoadRoomModel", 52), (30, "java/lang/IllegalArgumentException", 56), (31, "java/lang/IllegalStateException", 57), (32, "java/lang/IndexOutOfBoundsException", 58), (33, "java/lang/ArithmeticException", 59)]
end
section
/-! THE MODEL MACHINE: a small definitional interpreter of the program's bytecode over a typed heap. Part 04 on: what it does, the JVM does. -/
abbrev mm_H : Type := (Nat × Nat) × (Nat → Nat × Nat) × (Nat → Nat → Int32) × (Nat → Nat → Int64) × (Nat → Nat → Option Nat)
/-- cells and slots made; shapes (kind, length); ints, longs, references of a cell by their places -/
def mm_n (h : mm_H) : Nat := h.1.1
def mm_z (h : mm_H) : Nat := h.1.2
def mm_s (h : mm_H) (a : Nat) : Nat × Nat := h.2.1 a
def mm_i (h : mm_H) (a k : Nat) : Int32 := h.2.2.1 a k
def mm_l (h : mm_H) (a k : Nat) : Int64 := h.2.2.2.1 a k
def mm_r (h : mm_H) (a k : Nat) : Option Nat := h.2.2.2.2 a k
def mm_up {α : Type} (f : Nat → Nat → α) (a k : Nat) (v : α) : Nat → Nat → α := fun b j => if b = a ∧ j = k then v else f b j
def mm_pi (h : mm_H) (a k : Nat) (v : Int32) : mm_H := (h.1, h.2.1, mm_up h.2.2.1 a k v, h.2.2.2.1, h.2.2.2.2)
def mm_pl (h : mm_H) (a k : Nat) (v : Int64) : mm_H := (h.1, h.2.1, h.2.2.1, mm_up h.2.2.2.1 a k v, h.2.2.2.2)
def mm_pr (h : mm_H) (a k : Nat) (v : Option Nat) : mm_H := (h.1, h.2.1, h.2.2.1, h.2.2.2.1, mm_up h.2.2.2.2 a k v)
def mm_nw (h : mm_H) (kd len sl : Nat) : mm_H := ((h.1.1 + 1, h.1.2 + sl), (fun b => if b = h.1.1 then (kd, len) else h.2.1 b), (fun b j => if b = h.1.1 then 0 else h.2.2.1 b j), (fun b j => if b = h.1.1 then 0 else h.2.2.2.1 b j), (fun b j => if b = h.1.1 then none else h.2.2.2.2 b j))
/-- an array of n int arrays of length k: the outer one, then the inner ones -/
def mm_nw2 (h : mm_H) (kd kd2 n k : Nat) : mm_H := ((h.1.1 + 1 + n, h.1.2 + n + n * k), (fun b => if b = h.1.1 then (kd, n) else if h.1.1 < b ∧ b ≤ h.1.1 + n then (kd2, k) else h.2.1 b), (fun b j => if h.1.1 ≤ b ∧ b ≤ h.1.1 + n then 0 else h.2.2.1 b j), (fun b j => if h.1.1 ≤ b ∧ b ≤ h.1.1 + n then 0 else h.2.2.2.1 b j), (fun b j => if b = h.1.1 then (if j < n then some (h.1.1 + 1 + j) else none) else if h.1.1 ≤ b ∧ b ≤ h.1.1 + n then none else h.2.2.2.2 b j))
def mm_o : Option Nat → Value
  | none => .null
  | some a => .ref a
/-- what stands behind a long, and in variables that hold nothing yet -/
def mm_j : Value := .retAddr 0
theorem mm_o_some (a : Nat) : mm_o (some a) = .ref a := rfl
theorem mm_o_none : mm_o none = .null := rfl
-- reading behind a write
theorem mm_i_pi (h : mm_H) (a k : Nat) (v : Int32) (b j : Nat) : mm_i (mm_pi h a k v) b j = if b = a ∧ j = k then v else mm_i h b j := rfl
theorem mm_i_pl (h : mm_H) (a k : Nat) (v : Int64) : mm_i (mm_pl h a k v) = mm_i h := rfl
theorem mm_i_pr (h : mm_H) (a k : Nat) (v : Option Nat) : mm_i (mm_pr h a k v) = mm_i h := rfl
theorem mm_l_pl (h : mm_H) (a k : Nat) (v : Int64) (b j : Nat) : mm_l (mm_pl h a k v) b j = if b = a ∧ j = k then v else mm_l h b j := rfl
theorem mm_l_pi (h : mm_H) (a k : Nat) (v : Int32) : mm_l (mm_pi h a k v) = mm_l h := rfl
theorem mm_l_pr (h : mm_H) (a k : Nat) (v : Option Nat) : mm_l (mm_pr h a k v) = mm_l h := rfl
theorem mm_r_pr (h : mm_H) (a k : Nat) (v : Option Nat) (b j : Nat) : mm_r (mm_pr h a k v) b j = if b = a ∧ j = k then v else mm_r h b j := rfl
theorem mm_r_pi (h : mm_H) (a k : Nat) (v : Int32) : mm_r (mm_pi h a k v) = mm_r h := rfl
theorem mm_r_pl (h : mm_H) (a k : Nat) (v : Int64) : mm_r (mm_pl h a k v) = mm_r h := rfl
theorem mm_s_pi (h : mm_H) (a k : Nat) (v : Int32) : mm_s (mm_pi h a k v) = mm_s h := rfl
theorem mm_s_pl (h : mm_H) (a k : Nat) (v : Int64) : mm_s (mm_pl h a k v) = mm_s h := rfl
theorem mm_s_pr (h : mm_H) (a k : Nat) (v : Option Nat) : mm_s (mm_pr h a k v) = mm_s h := rfl
theorem mm_n_pi (h : mm_H) (a k : Nat) (v : Int32) : mm_n (mm_pi h a k v) = mm_n h := rfl
theorem mm_n_pl (h : mm_H) (a k : Nat) (v : Int64) : mm_n (mm_pl h a k v) = mm_n h := rfl
theorem mm_n_pr (h : mm_H) (a k : Nat) (v : Option Nat) : mm_n (mm_pr h a k v) = mm_n h := rfl
theorem mm_z_pi (h : mm_H) (a k : Nat) (v : Int32) : mm_z (mm_pi h a k v) = mm_z h := rfl
theorem mm_z_pl (h : mm_H) (a k : Nat) (v : Int64) : mm_z (mm_pl h a k v) = mm_z h := rfl
theorem mm_z_pr (h : mm_H) (a k : Nat) (v : Option Nat) : mm_z (mm_pr h a k v) = mm_z h := rfl
theorem mm_n_nw (h : mm_H) (kd len sl : Nat) : mm_n (mm_nw h kd len sl) = mm_n h + 1 := rfl
theorem mm_z_nw (h : mm_H) (kd len sl : Nat) : mm_z (mm_nw h kd len sl) = mm_z h + sl := rfl
theorem mm_s_nw (h : mm_H) (kd len sl b : Nat) : mm_s (mm_nw h kd len sl) b = if b = mm_n h then (kd, len) else mm_s h b := rfl
theorem mm_i_nw (h : mm_H) (kd len sl b j : Nat) : mm_i (mm_nw h kd len sl) b j = if b = mm_n h then 0 else mm_i h b j := rfl
theorem mm_l_nw (h : mm_H) (kd len sl b j : Nat) : mm_l (mm_nw h kd len sl) b j = if b = mm_n h then 0 else mm_l h b j := rfl
theorem mm_r_nw (h : mm_H) (kd len sl b j : Nat) : mm_r (mm_nw h kd len sl) b j = if b = mm_n h then none else mm_r h b j := rfl
/-! tables, read -/
def tb_cod (y pc : Nat) : Option (ClassFile.Instr × Nat) := ((tb_ins.getD y []).getD (pc / 64) []).lookup pc
def tb_dm : Nat × String × String × Nat × Nat × Nat × Bool := (0, "", "", 0, 0, 0, false)
def tb_cls (y : Nat) : Nat := (tb_met.getD y tb_dm).1
def tb_nL (y : Nat) : Nat := (tb_met.getD y tb_dm).2.2.2.1
def tb_rt (y : Nat) : Nat := (tb_met.getD y tb_dm).2.2.2.2.1
def tb_na (y : Nat) : Nat := (tb_met.getD y tb_dm).2.2.2.2.2.1
def tb_sta (y : Nat) : Bool := (tb_met.getD y tb_dm).2.2.2.2.2.2
def tb_fl (y idx : Nat) : Option (Nat × Nat × Nat) := (tb_fld.lookup (tb_cls y, idx)).map (·.1)
def tb_ca (y idx : Nat) : Option Nat := (tb_cal.lookup (tb_cls y, idx)).map (·.1)
def tb_ck (y idx : Nat) : Option Nat := (tb_cla.lookup (tb_cls y, idx)).map (·.1)
def tb_sl (kd : Nat) : Nat := ((tb_slt.lookup kd).map (·.1)).getD 0
def tb_ci (y idx : Nat) : Option Int32 := (tb_int.lookup (tb_cls y, idx)).map (·.1)
def tb_cl2 (y idx : Nat) : Option Int64 := (tb_lon.lookup (tb_cls y, idx)).map (·.1)
def tb_cs (y idx : Nat) : Option Nat := tb_str.findIdx? (fun q => q.1 == (tb_cls y, idx))
/-- the handler of a throw at pc -/
def mm_hnd (y pc kd : Nat) : Option Nat := ((tb_han.getD y []).find? (fun q => decide (q.1 ≤ pc) && (decide (pc < q.2.1) && decide (q.2.2.2.1 = kd)))).map (·.2.2.1)
/-- no handler of the method covers pc -/
def mm_ncv (y pc : Nat) : Bool := (tb_han.getD y []).all (fun q => !(decide (q.1 ≤ pc) && decide (pc < q.2.1)))
/-- a variable set: never just behind a long -/
def mm_set (y : Nat) (ls : List Value) (i : Nat) (v : Value) : Option (List Value) :=
  if (tb_lng.getD y []).any (fun j => j + 1 == i) then
    match ls[i - 1]? with
    | some (.int _) => some (ls.set i v)
    | some (.ref _) => some (ls.set i v)
    | _ => none
  else some (ls.set i v)
def mm_set2 (y : Nat) (ls : List Value) (i : Nat) (v : Value) : Option (List Value) :=
  if (tb_lng.getD y []).any (fun j => j == i) then
    if (tb_lng.getD y []).any (fun j => j + 1 == i) then none else some ((ls.set i v).set (i + 1) mm_j)
  else none
/-- arguments as they lie in the callee's variables -/
def mm_x : List Value → List Value
  | [] => []
  | v :: r => if v.category = 2 then v :: mm_j :: mm_x r else v :: mm_x r
def mm_ent (z : Nat) (as : List Value) : List Value := mm_x as ++ List.replicate (tb_nL z - (mm_x as).length) mm_j
/-- longs lie where the method has longs -/
def mm_e2 (lng : List Nat) : Nat → List Value → Bool
  | _, [] => true
  | i, v :: r => (v.category != 2 || lng.contains i) && mm_e2 lng (i + 1) r
def mm_eok (z : Nat) (env : List Value) : Bool := (env.length == tb_nL z) && mm_e2 (tb_lng.getD z []) 0 env
def mm_t (pc : Nat) (off : Int) : Nat := ((pc : Int) + off).toNat
def mm_c (c : ClassFile.Cond) (a b : Int32) : Bool := match c with
  | .eq => decide (a = b)
  | .ne => decide (¬ a = b)
  | .lt => decide (a < b)
  | .ge => decide (b ≤ a)
  | .gt => decide (b < a)
  | .le => decide (a ≤ b)
/-- a place in an array, looked at -/
def mm_in (j : Int32) (n : Nat) : Bool := decide (0 ≤ j) && decide (j.toNatClampNeg < n)
/-- go on there; call; return; throw -/
abbrev mm_A : Type := (Nat × List Value × List Value × mm_H) ⊕ ((Nat × List Value × List Value) ⊕ (Option Value ⊕ Nat))
def mm_go (pc : Nat) (ls st : List Value) (h : mm_H) : Option mm_A := some (.inl (pc, ls, st, h))
def mm_if (c : Prop) [Decidable c] (x : Option mm_A) : Option mm_A := if c then x else none
/-- a call: its arguments off the stack -/
def mm_call (z : Nat) (st : List Value) (h : mm_H) : Option mm_A :=
  mm_if ((tb_na z ≤ st.length ∧ st.length ≤ tb_na z + 8) ∧ mm_eok z (mm_ent z (st.take (tb_na z)).reverse) = true) (some (.inr (.inl (z, (st.take (tb_na z)).reverse, st.drop (tb_na z)))))
def mm_callV (z : Nat) (st : List Value) (h : mm_H) : Option mm_A :=
  match st[tb_na z - 1]? with
  | some (.ref a) => mm_if ((mm_s h a).1 = tb_cls z) (mm_call z st h)
  | _ => none
def mm_callI (z : Nat) (st : List Value) (h : mm_H) : Option mm_A :=
  match st[tb_na z - 1]? with
  | some (.ref _) => mm_call z st h
  | _ => none
def mm_act (y pc : Nat) (i : ClassFile.Instr) (ls st : List Value) (h : mm_H) : Option mm_A := match i with
  | .iconst n => mm_go (pc + 1) ls (.int (Int32.ofInt n) :: st) h
  | .bipush n => mm_go (pc + 2) ls (.int (Int8.ofInt n).toInt32 :: st) h
  | .sipush n => mm_go (pc + 3) ls (.int (Int16.ofInt n).toInt32 :: st) h
  | .lconst n => mm_go (pc + 1) ls (.long (Int64.ofNat (n : Nat)) :: st) h
  | .aconst_null => mm_go (pc + 1) ls (.null :: st) h
  | .ldc k => match tb_ci y k with
    | some v => mm_go (pc + 2) ls (.int v :: st) h
    | none => match tb_cs y k with
      | some q => mm_go (pc + 2) ls (.float (UInt32.ofNat q) :: st) h
      | none => none
  | .ldc2_w k => match tb_cl2 y k with
    | some v => mm_go (pc + 3) ls (.long v :: st) h
    | none => none
  | .iload k => match ls[k]? with
    | some (.int x) => mm_go (pc + 2) ls (.int x :: st) h
    | _ => none
  | .iload_n k => match ls[(k : Nat)]? with
    | some (.int x) => mm_go (pc + 1) ls (.int x :: st) h
    | _ => none
  | .lload k => match ls[k]? with
    | some (.long x) => mm_go (pc + 2) ls (.long x :: st) h
    | _ => none
  | .lload_n k => match ls[(k : Nat)]? with
    | some (.long x) => mm_go (pc + 1) ls (.long x :: st) h
    | _ => none
  | .aload k => match ls[k]? with
    | some (.ref x) => mm_go (pc + 2) ls (.ref x :: st) h
    | some .null => mm_go (pc + 2) ls (.null :: st) h
    | _ => none
  | .aload_n k => match ls[(k : Nat)]? with
    | some (.ref x) => mm_go (pc + 1) ls (.ref x :: st) h
    | some .null => mm_go (pc + 1) ls (.null :: st) h
    | _ => none
  | .istore k => match st with
    | .int x :: r => (mm_set y ls k (.int x)).bind (fun ls' => mm_go (pc + 2) ls' r h)
    | _ => none
  | .istore_n k => match st with
    | .int x :: r => (mm_set y ls k (.int x)).bind (fun ls' => mm_go (pc + 1) ls' r h)
    | _ => none
  | .lstore k => match st with
    | .long x :: r => (mm_set2 y ls k (.long x)).bind (fun ls' => mm_go (pc + 2) ls' r h)
    | _ => none
  | .lstore_n k => match st with
    | .long x :: r => (mm_set2 y ls k (.long x)).bind (fun ls' => mm_go (pc + 1) ls' r h)
    | _ => none
  | .astore k => match st with
    | .ref x :: r => (mm_set y ls k (.ref x)).bind (fun ls' => mm_go (pc + 2) ls' r h)
    | .null :: r => (mm_set y ls k .null).bind (fun ls' => mm_go (pc + 2) ls' r h)
    | _ => none
  | .astore_n k => match st with
    | .ref x :: r => (mm_set y ls k (.ref x)).bind (fun ls' => mm_go (pc + 1) ls' r h)
    | .null :: r => (mm_set y ls k .null).bind (fun ls' => mm_go (pc + 1) ls' r h)
    | _ => none
  | .iinc k n => match ls[k]? with
    | some (.int x) => (mm_set y ls k (.int (x + Int32.ofInt n))).bind (fun ls' => mm_go (pc + 3) ls' st h)
    | _ => none
  | .iadd => match st with
    | .int b :: .int a :: r => mm_go (pc + 1) ls (.int (a + b) :: r) h
    | _ => none
  | .isub => match st with
    | .int b :: .int a :: r => mm_go (pc + 1) ls (.int (a - b) :: r) h
    | _ => none
  | .imul => match st with
    | .int b :: .int a :: r => mm_go (pc + 1) ls (.int (a * b) :: r) h
    | _ => none
  | .iand => match st with
    | .int b :: .int a :: r => mm_go (pc + 1) ls (.int (a &&& b) :: r) h
    | _ => none
  | .idiv => match st with
    | .int b :: .int a :: r => mm_if (¬ b = 0) (mm_go (pc + 1) ls (.int (a / b) :: r) h)
    | _ => none
  | .irem => match st with
    | .int b :: .int a :: r => mm_if (¬ b = 0) (mm_go (pc + 1) ls (.int (a - a / b * b) :: r) h)
    | _ => none
  | .ladd => match st with
    | .long b :: .long a :: r => mm_go (pc + 1) ls (.long (a + b) :: r) h
    | _ => none
  | .lmul => match st with
    | .long b :: .long a :: r => mm_go (pc + 1) ls (.long (a * b) :: r) h
    | _ => none
  | .ldiv => match st with
    | .long b :: .long a :: r => mm_if (¬ b = 0) (mm_go (pc + 1) ls (.long (a / b) :: r) h)
    | _ => none
  | .lrem => match st with
    | .long b :: .long a :: r => mm_if (¬ b = 0) (mm_go (pc + 1) ls (.long (a - a / b * b) :: r) h)
    | _ => none
  | .lneg => match st with
    | .long a :: r => mm_go (pc + 1) ls (.long (-a) :: r) h
    | _ => none
  | .i2l => match st with
    | .int a :: r => mm_go (pc + 1) ls (.long a.toInt64 :: r) h
    | _ => none
  | .l2i => match st with
    | .long a :: r => mm_go (pc + 1) ls (.int a.toInt32 :: r) h
    | _ => none
  | .lcmp => match st with
    | .long b :: .long a :: r => mm_go (pc + 1) ls (.int (if b < a then 1 else if a = b then 0 else -1) :: r) h
    | _ => none
  | .dup => match st with
    | .int a :: r => mm_go (pc + 1) ls (.int a :: .int a :: r) h
    | .ref a :: r => mm_go (pc + 1) ls (.ref a :: .ref a :: r) h
    | _ => none
  | .pop => match st with
    | .int _ :: r => mm_go (pc + 1) ls r h
    | .ref _ :: r => mm_go (pc + 1) ls r h
    | _ => none
  | .dup2 => match st with
    | .int b :: .ref a :: r => mm_go (pc + 1) ls (.int b :: .ref a :: .int b :: .ref a :: r) h
    | _ => none
  | .ifCond c off => match st with
    | .int a :: r => mm_go (if mm_c c a 0 = true then mm_t pc off else pc + 3) ls r h
    | _ => none
  | .if_icmp c off => match st with
    | .int b :: .int a :: r => mm_go (if mm_c c a b = true then mm_t pc off else pc + 3) ls r h
    | _ => none
  | .ifnull off => match st with
    | .null :: r => mm_go (mm_t pc off) ls r h
    | .ref _ :: r => mm_go (pc + 3) ls r h
    | _ => none
  | .ifnonnull off => match st with
    | .null :: r => mm_go (pc + 3) ls r h
    | .ref _ :: r => mm_go (mm_t pc off) ls r h
    | _ => none
  | .goto off => mm_go (mm_t pc off) ls st h
  | .tableswitch d lo hi offs => match st with
    | .int x :: r => mm_go (if x.toInt < lo ∨ hi < x.toInt then mm_t pc d else mm_t pc (offs.toList.getD (x.toInt - lo).toNat 0)) ls r h
    | _ => none
  | .getfield k => match st, tb_fl y k with
    | .ref a :: r, some (kd, p, ty) => mm_if ((mm_s h a).1 = kd) (mm_go (pc + 3) ls ((if ty = 1 then .long (mm_l h a p) else if ty = 2 then mm_o (mm_r h a p) else .int (mm_i h a p)) :: r) h)
    | _, _ => none
  | .putfield k => match st, tb_fl y k with
    | .int v :: .ref a :: r, some (kd, p, ty) => mm_if ((mm_s h a).1 = kd ∧ (ty = 0 ∨ ty = 3 ∧ (v = 0 ∨ v = 1))) (mm_go (pc + 3) ls r (mm_pi h a p v))
    | .long v :: .ref a :: r, some (kd, p, ty) => mm_if ((mm_s h a).1 = kd ∧ ty = 1) (mm_go (pc + 3) ls r (mm_pl h a p v))
    | .ref b :: .ref a :: r, some (kd, p, ty) => mm_if ((mm_s h a).1 = kd ∧ ty = 2) (mm_go (pc + 3) ls r (mm_pr h a p (some b)))
    | _, _ => none
  | .iaload => match st with
    | .int j :: .ref a :: r => mm_if ((mm_s h a).1 = 20 ∧ mm_in j (mm_s h a).2 = true) (mm_go (pc + 1) ls (.int (mm_i h a j.toNatClampNeg) :: r) h)
    | _ => none
  | .laload => match st with
    | .int j :: .ref a :: r => mm_if ((mm_s h a).1 = 21 ∧ mm_in j (mm_s h a).2 = true) (mm_go (pc + 1) ls (.long (mm_l h a j.toNatClampNeg) :: r) h)
    | _ => none
  | .baload => match st with
    | .int j :: .ref a :: r => mm_if ((mm_s h a).1 = 22 ∧ mm_in j (mm_s h a).2 = true) (mm_go (pc + 1) ls (.int (mm_i h a j.toNatClampNeg) :: r) h)
    | _ => none
  | .aaload => match st with
    | .int j :: .ref a :: r => mm_if (23 ≤ (mm_s h a).1 ∧ (mm_s h a).1 ≤ 26 ∧ mm_in j (mm_s h a).2 = true) (mm_go (pc + 1) ls (mm_o (mm_r h a j.toNatClampNeg) :: r) h)
    | _ => none
  | .iastore => match st with
    | .int v :: .int j :: .ref a :: r => mm_if ((mm_s h a).1 = 20 ∧ ¬ a = 0 ∧ mm_in j (mm_s h a).2 = true) (mm_go (pc + 1) ls r (mm_pi h a j.toNatClampNeg v))
    | _ => none
  | .lastore => match st with
    | .long v :: .int j :: .ref a :: r => mm_if ((mm_s h a).1 = 21 ∧ mm_in j (mm_s h a).2 = true) (mm_go (pc + 1) ls r (mm_pl h a j.toNatClampNeg v))
    | _ => none
  | .bastore => match st with
    | .int v :: .int j :: .ref a :: r => mm_if ((mm_s h a).1 = 22 ∧ (v = 0 ∨ v = 1) ∧ mm_in j (mm_s h a).2 = true) (mm_go (pc + 1) ls r (mm_pi h a j.toNatClampNeg v))
    | _ => none
  | .aastore => match st with
    | .ref v :: .int j :: .ref a :: r => mm_if (((mm_s h a).1 = 23 ∧ (mm_s h v).1 = 5 ∨ (mm_s h a).1 = 24 ∧ (mm_s h v).1 = 6 ∨ (mm_s h a).1 = 25 ∧ (mm_s h v).1 = 4) ∧ mm_in j (mm_s h a).2 = true) (mm_go (pc + 1) ls r (mm_pr h a j.toNatClampNeg (some v)))
    | _ => none
  | .arraylength => match st with
    | .ref a :: r => mm_if (20 ≤ (mm_s h a).1 ∧ (mm_s h a).1 ≤ 26) (mm_go (pc + 1) ls (.int (nI (mm_s h a).2) :: r) h)
    | _ => none
  | .new k => match tb_ck y k with
    | some kd => mm_if (kd ≠ 26) (mm_go (pc + 3) ls (.ref (mm_n h) :: st) (mm_nw h kd (tb_sl kd) (tb_sl kd)))
    | none => none
  | .newarray ty => match st with
    | .int n :: r => mm_if (0 ≤ n ∧ n ≤ 1000 ∧ (ty = .int ∨ ty = .long ∨ ty = .boolean)) (mm_go (pc + 2) ls (.ref (mm_n h) :: r) (mm_nw h (if ty = .int then 20 else if ty = .long then 21 else 22) n.toNatClampNeg n.toNatClampNeg))
    | _ => none
  | .anewarray k => match st, tb_ck y k with
    | .int n :: r, some kd => mm_if (0 ≤ n ∧ n ≤ 1000 ∧ (kd = 5 ∨ kd = 6 ∨ kd = 4)) (mm_go (pc + 3) ls (.ref (mm_n h) :: r) (mm_nw h (if kd = 5 then 23 else if kd = 6 then 24 else 25) n.toNatClampNeg n.toNatClampNeg))
    | _, _ => none
  | .multianewarray k d => match st, tb_ck y k with
    | .int m :: .int n :: r, some kd => mm_if (0 ≤ n ∧ n ≤ 1000 ∧ 0 ≤ m ∧ m ≤ 1000 ∧ d = 2 ∧ kd = 26) (mm_go (pc + 4) ls (.ref (mm_n h) :: r) (mm_nw2 h 26 20 n.toNatClampNeg m.toNatClampNeg))
    | _, _ => none
  | .ireturn => match st with
    | .int v :: _ => mm_if (tb_rt y = 1 ∨ tb_rt y = 3 ∧ (v = 0 ∨ v = 1)) (some (.inr (.inr (.inl (some (.int v))))))
    | _ => none
  | .lreturn => match st with
    | .long v :: _ => mm_if (tb_rt y = 2) (some (.inr (.inr (.inl (some (.long v))))))
    | _ => none
  | .areturn => match st with
    | .ref v :: _ => mm_if (tb_rt y = 4) (some (.inr (.inr (.inl (some (.ref v))))))
    | .null :: _ => mm_if (tb_rt y = 4) (some (.inr (.inr (.inl (some .null)))))
    | _ => none
  | .return_ => mm_if (tb_rt y = 0) (some (.inr (.inr (.inl none))))
  | .athrow => match st with
    | .ref a :: _ => mm_if (30 ≤ (mm_s h a).1) (some (.inr (.inr (.inr a))))
    | _ => none
  | .invokestatic k => match tb_ca y k with
    | some z => mm_if (z < 1000 ∧ tb_sta z = true) (mm_call z st h)
    | none => none
  | .invokevirtual k => match tb_ca y k with
    | some z => mm_if (z < 1000 ∧ tb_sta z = false) (mm_callV z st h)
    | none => none
  | .invokespecial k => match tb_ca y k with
    | some z => if z = 1000 then (match st with
        | .ref _ :: r => mm_if (r.length ≤ 8) (mm_go (pc + 3) ls r h)
        | _ => none) else if 1000 < z then (match st with
        | .float _ :: .ref a :: r => mm_if ((mm_s h a).1 = z - 971 ∧ r.length ≤ 8) (mm_go (pc + 3) ls r h)
        | _ => none) else mm_if (tb_sta z = false) (mm_callI z st h)
    | none => none
  | _ => none
/-- fuel, depth, method, pc, variables, stack, heap: what the method comes to (an answer, or an exception's cell), and the heap -/
def mm_run : Nat → Nat → Nat → Nat → List Value → List Value → mm_H → Option ((Option Value ⊕ Nat) × mm_H)
  | 0, _, _, _, _, _, _ => none
  | n + 1, d, y, pc, ls, st, h =>
    match tb_cod y pc with
    | none => none
    | some q =>
      match mm_act y pc q.1 ls st h with
      | none => none
      | some (.inl g) => mm_run n d y g.1 g.2.1 g.2.2.1 g.2.2.2
      | some (.inr (.inl c)) =>
        match d with
        | 0 => none
        | d' + 1 =>
          match mm_run n d' c.1 0 (mm_ent c.1 c.2.1) [] h with
          | none => none
          | some (.inl v, h') => mm_run n (d' + 1) y (pc + 3) ls (v.toList ++ c.2.2) h'
          | some (.inr a, h') =>
            match mm_hnd y pc (mm_s h' a).1 with
            | none => if mm_ncv y pc = true then some (.inr a, h') else none
            | some pc' => mm_run n (d' + 1) y pc' ls [.ref a] h'
      | some (.inr (.inr (.inl v))) => some (.inl v, h)
      | some (.inr (.inr (.inr a))) =>
        match mm_hnd y pc (mm_s h a).1 with
        | none => if mm_ncv y pc = true then some (.inr a, h) else none
        | some pc' => mm_run n d y pc' ls [.ref a] h
end
section
/-! WHAT A RUN COMES TO: mm_wp, and a rule a kind of instruction -/
abbrev mm_Q : Type := (Option Value ⊕ Nat) → mm_H → Prop
def mm_wp (d y pc : Nat) (ls st : List Value) (h : mm_H) (Q : mm_Q) : Prop := ∃ n r h', mm_run n d y pc ls st h = some (r, h') ∧ Q r h'
theorem mm_fuel : ∀ n d y pc ls st h r, mm_run n d y pc ls st h = some r → mm_run (n + 1) d y pc ls st h = some r := by
  intro n
  induction n with
  | zero => intro d y pc ls st h r hr; simp [mm_run] at hr
  | succ n ih =>
    intro d y pc ls st h r hr
    rw [mm_run] at hr
    rw [mm_run]
    cases hc : tb_cod y pc with
    | none => simp [hc] at hr
    | some q =>
      simp only [hc] at hr ⊢
      cases ha : mm_act y pc q.1 ls st h with
      | none => simp [ha] at hr
      | some A =>
        simp only [ha] at hr ⊢
        rcases A with g | c | v | a
        · exact ih _ _ _ _ _ _ _ hr
        · cases d with
          | zero => simp at hr
          | succ d' =>
            simp only at hr ⊢
            cases h1 : mm_run n d' c.1 0 (mm_ent c.1 c.2.1) [] h with
            | none => simp [h1] at hr
            | some x =>
              simp only [h1] at hr
              simp only [ih _ _ _ _ _ _ _ h1]
              rcases x with ⟨v | a, h'⟩
              · exact ih _ _ _ _ _ _ _ hr
              · simp only at hr ⊢
                cases h2 : mm_hnd y pc (mm_s h' a).1 with
                | none => simp only [h2] at hr ⊢; exact hr
                | some pc' => simp only [h2] at hr ⊢; exact ih _ _ _ _ _ _ _ hr
        · exact hr
        · simp only at hr ⊢
          cases h2 : mm_hnd y pc (mm_s h a).1 with
          | none => simp only [h2] at hr ⊢; exact hr
          | some pc' => simp only [h2] at hr ⊢; exact ih _ _ _ _ _ _ _ hr
theorem mm_fuel' {n m d y pc : Nat} {ls st : List Value} {h : mm_H} {r : (Option Value ⊕ Nat) × mm_H} (hr : mm_run n d y pc ls st h = some r) (hm : n ≤ m) : mm_run m d y pc ls st h = some r := by
  obtain ⟨k, rfl⟩ := Nat.exists_eq_add_of_le hm
  clear hm
  induction k with
  | zero => exact hr
  | succ k ih => exact mm_fuel _ _ _ _ _ _ _ _ ih
theorem mm_deep : ∀ n d y pc ls st h r, mm_run n d y pc ls st h = some r → mm_run n (d + 1) y pc ls st h = some r := by
  intro n
  induction n with
  | zero => intro d y pc ls st h r hr; simp [mm_run] at hr
  | succ n ih =>
    intro d y pc ls st h r hr
    rw [mm_run] at hr
    rw [mm_run]
    cases hc : tb_cod y pc with
    | none => simp [hc] at hr
    | some q =>
      simp only [hc] at hr ⊢
      cases ha : mm_act y pc q.1 ls st h with
      | none => simp [ha] at hr
      | some A =>
        simp only [ha] at hr ⊢
        rcases A with g | c | v | a
        · exact ih _ _ _ _ _ _ _ hr
        · cases d with
          | zero => simp at hr
          | succ d' =>
            simp only at hr ⊢
            cases h1 : mm_run n d' c.1 0 (mm_ent c.1 c.2.1) [] h with
            | none => simp [h1] at hr
            | some x =>
              simp only [h1] at hr
              simp only [ih _ _ _ _ _ _ _ h1]
              rcases x with ⟨v | a, h'⟩
              · exact ih _ _ _ _ _ _ _ hr
              · simp only at hr ⊢
                cases h2 : mm_hnd y pc (mm_s h' a).1 with
                | none => simp only [h2] at hr ⊢; exact hr
                | some pc' => simp only [h2] at hr ⊢; exact ih _ _ _ _ _ _ _ hr
        · exact hr
        · simp only at hr ⊢
          cases h2 : mm_hnd y pc (mm_s h a).1 with
          | none => simp only [h2] at hr ⊢; exact hr
          | some pc' => simp only [h2] at hr ⊢; exact ih _ _ _ _ _ _ _ hr
section
variable {d y pc pc' len k kd p z : Nat} {i : ClassFile.Instr} {ls ls' st st' r : List Value} {h h' : mm_H} {Q Q' : mm_Q}
theorem mm_wp.imp (H : mm_wp d y pc ls st h Q) (hQ : ∀ r h', Q r h' → Q' r h') : mm_wp d y pc ls st h Q' := by
  obtain ⟨n, r, h', e, q⟩ := H
  exact ⟨n, r, h', e, hQ _ _ q⟩
theorem mm_wp.deep (H : mm_wp d y pc ls st h Q) {d' : Nat} (hd : d ≤ d') : mm_wp d' y pc ls st h Q := by
  obtain ⟨k, rfl⟩ := Nat.exists_eq_add_of_le hd
  clear hd
  induction k with
  | zero => exact H
  | succ k ih =>
    obtain ⟨n, r, h', e, q⟩ := ih
    exact ⟨n, r, h', mm_deep _ _ _ _ _ _ _ _ e, q⟩
theorem wp_go (hc : tb_cod y pc = some (i, len)) (ha : mm_act y pc i ls st h = mm_go pc' ls' st' h') : mm_wp d y pc ls st h Q ↔ mm_wp d y pc' ls' st' h' Q := by
  constructor
  · rintro ⟨n, r, hh, e, q⟩
    cases n with
    | zero => simp [mm_run] at e
    | succ n =>
      rw [mm_run] at e
      simp only [hc, ha, mm_go] at e
      exact ⟨n, r, hh, e, q⟩
  · rintro ⟨n, r, hh, e, q⟩
    refine ⟨n + 1, r, hh, ?_, q⟩
    rw [mm_run]
    simp only [hc, ha, mm_go]
    exact e
theorem wp_none (hc : tb_cod y pc = some (i, len)) (ha : mm_act y pc i ls st h = none) : mm_wp d y pc ls st h Q ↔ False := by
  constructor
  · rintro ⟨n, r, hh, e, q⟩
    cases n with
    | zero => simp [mm_run] at e
    | succ n =>
      rw [mm_run] at e
      simp [hc, ha] at e
  · exact False.elim
theorem wp_if {c : Prop} (dc : Decidable c) (hc : tb_cod y pc = some (i, len)) (ha : mm_act y pc i ls st h = @mm_if c dc (mm_go pc' ls' st' h')) : mm_wp d y pc ls st h Q ↔ c ∧ mm_wp d y pc' ls' st' h' Q := by
  by_cases hcc : c
  · rw [wp_go hc (by rw [ha]; exact if_pos hcc)]
    exact ⟨fun H => ⟨hcc, H⟩, fun H => H.2⟩
  · rw [wp_none hc (by rw [ha]; exact if_neg hcc)]
    exact ⟨False.elim, fun H => hcc H.1⟩
theorem wp_br {c : Prop} {dc : Decidable c} {t f : Nat} (hc : tb_cod y pc = some (i, len)) (ha : mm_act y pc i ls st h = mm_go (@ite _ c dc t f) ls' st' h') : mm_wp d y pc ls st h Q ↔ @ite _ c dc (mm_wp d y t ls' st' h' Q) (mm_wp d y f ls' st' h' Q) := by
  rw [wp_go hc ha]
  split <;> rfl
theorem wp_ret {v : Option Value} (hc : tb_cod y pc = some (i, len)) (ha : mm_act y pc i ls st h = some (.inr (.inr (.inl v)))) : mm_wp d y pc ls st h Q ↔ Q (.inl v) h := by
  constructor
  · rintro ⟨n, r, hh, e, q⟩
    cases n with
    | zero => simp [mm_run] at e
    | succ n =>
      rw [mm_run] at e
      simp only [hc, ha, Option.some.injEq, Prod.mk.injEq] at e
      obtain ⟨rfl, rfl⟩ := e
      exact q
  · intro q
    refine ⟨1, _, _, ?_, q⟩
    rw [mm_run]
    simp only [hc, ha]
theorem wp_retif {c : Prop} (dc : Decidable c) {v : Option Value} (hc : tb_cod y pc = some (i, len)) (ha : mm_act y pc i ls st h = @mm_if c dc (some (.inr (.inr (.inl v))))) : mm_wp d y pc ls st h Q ↔ c ∧ Q (.inl v) h := by
  by_cases hcc : c
  · rw [wp_ret hc (by rw [ha]; exact if_pos hcc)]
    exact ⟨fun H => ⟨hcc, H⟩, fun H => H.2⟩
  · rw [wp_none hc (by rw [ha]; exact if_neg hcc)]
    exact ⟨False.elim, fun H => hcc H.1⟩
/-- what comes behind a call -/
def mm_bk (d y pc : Nat) (ls rest : List Value) (Q : mm_Q) : mm_Q := fun r h' => match r with
  | .inl v => mm_wp d y (pc + 3) ls (v.toList ++ rest) h' Q
  | .inr a => match mm_hnd y pc (mm_s h' a).1 with
    | none => mm_ncv y pc = true ∧ Q (.inr a) h'
    | some pc' => mm_wp d y pc' ls [.ref a] h' Q
theorem wp_call {as rest : List Value} (hc : tb_cod y pc = some (i, len)) (ha : mm_act y pc i ls st h = some (.inr (.inl (z, as, rest)))) : mm_wp (d + 1) y pc ls st h Q ↔ mm_wp d z 0 (mm_ent z as) [] h (mm_bk (d + 1) y pc ls rest Q) := by
  constructor
  · rintro ⟨n, r, hh, e, q⟩
    cases n with
    | zero => simp [mm_run] at e
    | succ n =>
      rw [mm_run] at e
      simp only [hc, ha] at e
      cases h1 : mm_run n d z 0 (mm_ent z as) [] h with
      | none => simp [h1] at e
      | some x =>
        simp only [h1] at e
        rcases x with ⟨v | a, h'⟩
        · exact ⟨n, _, _, h1, n, r, hh, e, q⟩
        · refine ⟨n, _, _, h1, ?_⟩
          simp only at e
          simp only [mm_bk]
          cases h2 : mm_hnd y pc (mm_s h' a).1 with
          | none =>
            simp only [h2] at e
            split at e
            · rename_i hcv
              simp only [Option.some.injEq, Prod.mk.injEq] at e
              obtain ⟨rfl, rfl⟩ := e
              exact ⟨hcv, q⟩
            · cases e
          | some pc' =>
            simp only [h2] at e
            exact ⟨n, r, hh, e, q⟩
  · rintro ⟨n, x, h', h1, H⟩
    rcases x with v | a
    · obtain ⟨m, r, hh, e, q⟩ := H
      refine ⟨max n m + 1, r, hh, ?_, q⟩
      rw [mm_run]
      simp only [hc, ha, mm_fuel' h1 (Nat.le_max_left n m)]
      exact mm_fuel' e (Nat.le_max_right n m)
    · simp only [mm_bk] at H
      cases h2 : mm_hnd y pc (mm_s h' a).1 with
      | none =>
        simp only [h2] at H
        refine ⟨n + 1, _, _, ?_, H.2⟩
        rw [mm_run]
        simp only [hc, ha, h1, h2, H.1, if_true]
      | some pc' =>
        simp only [h2] at H
        obtain ⟨m, r, hh, e, q⟩ := H
        refine ⟨max n m + 1, r, hh, ?_, q⟩
        rw [mm_run]
        simp only [hc, ha, mm_fuel' h1 (Nat.le_max_left n m), h2]
        exact mm_fuel' e (Nat.le_max_right n m)
theorem wp_callif {c : Prop} (dc : Decidable c) {as rest : List Value} (hc : tb_cod y pc = some (i, len)) (ha : mm_act y pc i ls st h = @mm_if c dc (some (.inr (.inl (z, as, rest))))) : mm_wp (d + 1) y pc ls st h Q ↔ c ∧ mm_wp d z 0 (mm_ent z as) [] h (mm_bk (d + 1) y pc ls rest Q) := by
  by_cases hcc : c
  · rw [wp_call hc (by rw [ha]; exact if_pos hcc)]
    exact ⟨fun H => ⟨hcc, H⟩, fun H => H.2⟩
  · rw [wp_none hc (by rw [ha]; exact if_neg hcc)]
    exact ⟨False.elim, fun H => hcc H.1⟩
theorem wp_thr {a : Nat} (hc : tb_cod y pc = some (i, len)) (ha : mm_act y pc i ls st h = mm_if (30 ≤ (mm_s h a).1) (some (.inr (.inr (.inr a))))) (hh : tb_han.getD y [] = []) : mm_wp d y pc ls st h Q ↔ 30 ≤ (mm_s h a).1 ∧ Q (.inr a) h := by
  have hn : mm_hnd y pc (mm_s h a).1 = none := by simp only [mm_hnd, hh]; rfl
  have hcv : mm_ncv y pc = true := by simp only [mm_ncv, hh]; rfl
  by_cases hcc : 30 ≤ (mm_s h a).1
  · have ha' : mm_act y pc i ls st h = some (.inr (.inr (.inr a))) := by rw [ha]; exact if_pos hcc
    constructor
    · rintro ⟨n, r, hh, e, q⟩
      cases n with
      | zero => simp [mm_run] at e
      | succ n =>
        rw [mm_run] at e
        simp only [hc, ha', hn, hcv, if_true, Option.some.injEq, Prod.mk.injEq] at e
        obtain ⟨rfl, rfl⟩ := e
        exact ⟨hcc, q⟩
    · intro q
      refine ⟨1, _, _, ?_, q.2⟩
      rw [mm_run]
      simp only [hc, ha', hn, hcv, if_true]
  · rw [wp_none hc (by rw [ha]; exact if_neg hcc)]
    exact ⟨False.elim, fun H => hcc H.1⟩
theorem mm_bk_v {rest : List Value} {v : Value} : mm_bk d y pc ls rest Q (.inl (some v)) h ↔ mm_wp d y (pc + 3) ls (v :: rest) h Q := Iff.rfl
theorem mm_bk_n {rest : List Value} : mm_bk d y pc ls rest Q (.inl none) h ↔ mm_wp d y (pc + 3) ls rest h Q := Iff.rfl
theorem mm_bk_x {rest : List Value} {a : Nat} : mm_bk d y pc ls rest Q (.inr a) h ↔ (match mm_hnd y pc (mm_s h a).1 with | none => mm_ncv y pc = true ∧ Q (.inr a) h | some pc' => mm_wp d y pc' ls [.ref a] h Q) := Iff.rfl
end
end
section
/-! A RULE AN INSTRUCTION, over the tables' entries -/
theorem mm_act_e {y pc : Nat} {i : ClassFile.Instr} {ls st : List Value} {h : mm_H} {x y' : Option mm_A} (e : mm_act y pc i ls st h = x) (e2 : x = y') : mm_act y pc i ls st h = y' := e.trans e2
section
variable {d y pc k kd p z t f len : Nat} {ls ls' st r : List Value} {h : mm_H} {Q : mm_Q} {a b : Nat} {x x2 : Int32} {w w2 : Int64} {n off : Int}
theorem wp_brc {P : Prop} [Decidable P] {bb : Bool} {i : ClassFile.Instr} {st' : List Value} (hc : tb_cod y pc = some (i, len)) (ha : mm_act y pc i ls st h = mm_go (if bb = true then t else f) ls st' h) (hb : bb = decide P) : mm_wp d y pc ls st h Q ↔ if P then mm_wp d y t ls st' h Q else mm_wp d y f ls st' h Q := by
  subst hb
  rw [wp_go hc ha]
  by_cases hP : P
  · simp [hP]
  · simp [hP]
theorem wp_iconst {v : Int32} (hc : tb_cod y pc = some (.iconst n, 1)) (hv : Int32.ofInt n = v) : mm_wp d y pc ls st h Q ↔ mm_wp d y (pc + 1) ls (.int v :: st) h Q := by subst hv; exact wp_go hc rfl
theorem wp_bipush {v : Int32} (hc : tb_cod y pc = some (.bipush n, 2)) (hv : (Int8.ofInt n).toInt32 = v) : mm_wp d y pc ls st h Q ↔ mm_wp d y (pc + 2) ls (.int v :: st) h Q := by subst hv; exact wp_go hc rfl
theorem wp_sipush {v : Int32} (hc : tb_cod y pc = some (.sipush n, 3)) (hv : (Int16.ofInt n).toInt32 = v) : mm_wp d y pc ls st h Q ↔ mm_wp d y (pc + 3) ls (.int v :: st) h Q := by subst hv; exact wp_go hc rfl
theorem wp_lconst {v : Int64} {m : Fin 2} (hc : tb_cod y pc = some (.lconst m, 1)) (hv : Int64.ofNat (m : Nat) = v) : mm_wp d y pc ls st h Q ↔ mm_wp d y (pc + 1) ls (.long v :: st) h Q := by subst hv; exact wp_go hc rfl
theorem wp_anull (hc : tb_cod y pc = some (.aconst_null, 1)) : mm_wp d y pc ls st h Q ↔ mm_wp d y (pc + 1) ls (.null :: st) h Q := wp_go hc rfl
theorem wp_ldcI {v : Int32} (hc : tb_cod y pc = some (.ldc k, 2)) (hv : tb_ci y k = some v) : mm_wp d y pc ls st h Q ↔ mm_wp d y (pc + 2) ls (.int v :: st) h Q := wp_go hc (by simp only [mm_act, hv])
theorem wp_ldcS (hc : tb_cod y pc = some (.ldc k, 2)) (hv : tb_ci y k = none) (hs : tb_cs y k = some z) : mm_wp d y pc ls st h Q ↔ mm_wp d y (pc + 2) ls (.float (UInt32.ofNat z) :: st) h Q := wp_go hc (by simp only [mm_act, hv, hs])
theorem wp_ldc2 {v : Int64} (hc : tb_cod y pc = some (.ldc2_w k, 3)) (hv : tb_cl2 y k = some v) : mm_wp d y pc ls st h Q ↔ mm_wp d y (pc + 3) ls (.long v :: st) h Q := wp_go hc (by simp only [mm_act, hv])
theorem wp_iload (hc : tb_cod y pc = some (.iload k, 2)) (hl : ls[k]? = some (.int x)) : mm_wp d y pc ls st h Q ↔ mm_wp d y (pc + 2) ls (.int x :: st) h Q := wp_go hc (by simp only [mm_act, hl])
theorem wp_iload_n {m : Fin 4} (hc : tb_cod y pc = some (.iload_n m, 1)) (hl : ls[(m : Nat)]? = some (.int x)) : mm_wp d y pc ls st h Q ↔ mm_wp d y (pc + 1) ls (.int x :: st) h Q := wp_go hc (by simp only [mm_act, hl])
theorem wp_lload (hc : tb_cod y pc = some (.lload k, 2)) (hl : ls[k]? = some (.long w)) : mm_wp d y pc ls st h Q ↔ mm_wp d y (pc + 2) ls (.long w :: st) h Q := wp_go hc (by simp only [mm_act, hl])
theorem wp_lload_n {m : Fin 4} (hc : tb_cod y pc = some (.lload_n m, 1)) (hl : ls[(m : Nat)]? = some (.long w)) : mm_wp d y pc ls st h Q ↔ mm_wp d y (pc + 1) ls (.long w :: st) h Q := wp_go hc (by simp only [mm_act, hl])
theorem wp_aload (hc : tb_cod y pc = some (.aload k, 2)) (o : Option Nat) (hl : ls[k]? = some (mm_o o)) : mm_wp d y pc ls st h Q ↔ mm_wp d y (pc + 2) ls (mm_o o :: st) h Q := wp_go hc (by cases o <;> simp only [mm_act, hl, mm_o])
theorem wp_aload_n {m : Fin 4} (hc : tb_cod y pc = some (.aload_n m, 1)) (o : Option Nat) (hl : ls[(m : Nat)]? = some (mm_o o)) : mm_wp d y pc ls st h Q ↔ mm_wp d y (pc + 1) ls (mm_o o :: st) h Q := wp_go hc (by cases o <;> simp only [mm_act, hl, mm_o])
theorem wp_aloadR (hc : tb_cod y pc = some (.aload k, 2)) (hl : ls[k]? = some (.ref a)) : mm_wp d y pc ls st h Q ↔ mm_wp d y (pc + 2) ls (.ref a :: st) h Q := wp_go hc (by simp only [mm_act, hl])
theorem wp_aloadR_n {m : Fin 4} (hc : tb_cod y pc = some (.aload_n m, 1)) (hl : ls[(m : Nat)]? = some (.ref a)) : mm_wp d y pc ls st h Q ↔ mm_wp d y (pc + 1) ls (.ref a :: st) h Q := wp_go hc (by simp only [mm_act, hl])
theorem wp_istore (hc : tb_cod y pc = some (.istore k, 2)) (hl : mm_set y ls k (.int x) = some ls') : mm_wp d y pc ls (.int x :: r) h Q ↔ mm_wp d y (pc + 2) ls' r h Q := wp_go hc (by simp only [mm_act, hl]; rfl)
theorem wp_istore_n {m : Fin 4} (hc : tb_cod y pc = some (.istore_n m, 1)) (hl : mm_set y ls m (.int x) = some ls') : mm_wp d y pc ls (.int x :: r) h Q ↔ mm_wp d y (pc + 1) ls' r h Q := wp_go hc (by simp only [mm_act, hl]; rfl)
theorem wp_lstore (hc : tb_cod y pc = some (.lstore k, 2)) (hl : mm_set2 y ls k (.long w) = some ls') : mm_wp d y pc ls (.long w :: r) h Q ↔ mm_wp d y (pc + 2) ls' r h Q := wp_go hc (by simp only [mm_act, hl]; rfl)
theorem wp_lstore_n {m : Fin 4} (hc : tb_cod y pc = some (.lstore_n m, 1)) (hl : mm_set2 y ls m (.long w) = some ls') : mm_wp d y pc ls (.long w :: r) h Q ↔ mm_wp d y (pc + 1) ls' r h Q := wp_go hc (by simp only [mm_act, hl]; rfl)
theorem wp_astore (hc : tb_cod y pc = some (.astore k, 2)) (o : Option Nat) (hl : mm_set y ls k (mm_o o) = some ls') : mm_wp d y pc ls (mm_o o :: r) h Q ↔ mm_wp d y (pc + 2) ls' r h Q := wp_go hc (by cases o <;> simp only [mm_o] at hl ⊢ <;> simp only [mm_act, hl] <;> rfl)
theorem wp_astore_n {m : Fin 4} (hc : tb_cod y pc = some (.astore_n m, 1)) (o : Option Nat) (hl : mm_set y ls m (mm_o o) = some ls') : mm_wp d y pc ls (mm_o o :: r) h Q ↔ mm_wp d y (pc + 1) ls' r h Q := wp_go hc (by cases o <;> simp only [mm_o] at hl ⊢ <;> simp only [mm_act, hl] <;> rfl)
theorem wp_astoreR (hc : tb_cod y pc = some (.astore k, 2)) (hl : mm_set y ls k (.ref a) = some ls') : mm_wp d y pc ls (.ref a :: r) h Q ↔ mm_wp d y (pc + 2) ls' r h Q := wp_go hc (by simp only [mm_act, hl]; rfl)
theorem wp_astoreR_n {m : Fin 4} (hc : tb_cod y pc = some (.astore_n m, 1)) (hl : mm_set y ls m (.ref a) = some ls') : mm_wp d y pc ls (.ref a :: r) h Q ↔ mm_wp d y (pc + 1) ls' r h Q := wp_go hc (by simp only [mm_act, hl]; rfl)
theorem wp_iinc {v : Int32} (hc : tb_cod y pc = some (.iinc k n, 3)) (hx : ls[k]? = some (.int x)) (hv : Int32.ofInt n = v) (hl : mm_set y ls k (.int (x + v)) = some ls') : mm_wp d y pc ls st h Q ↔ mm_wp d y (pc + 3) ls' st h Q := by subst hv; exact wp_go hc (by simp only [mm_act, hx, hl]; rfl)
theorem wp_iadd (hc : tb_cod y pc = some (.iadd, 1)) : mm_wp d y pc ls (.int x2 :: .int x :: r) h Q ↔ mm_wp d y (pc + 1) ls (.int (x + x2) :: r) h Q := wp_go hc rfl
theorem wp_isub (hc : tb_cod y pc = some (.isub, 1)) : mm_wp d y pc ls (.int x2 :: .int x :: r) h Q ↔ mm_wp d y (pc + 1) ls (.int (x - x2) :: r) h Q := wp_go hc rfl
theorem wp_imul (hc : tb_cod y pc = some (.imul, 1)) : mm_wp d y pc ls (.int x2 :: .int x :: r) h Q ↔ mm_wp d y (pc + 1) ls (.int (x * x2) :: r) h Q := wp_go hc rfl
theorem wp_iand (hc : tb_cod y pc = some (.iand, 1)) : mm_wp d y pc ls (.int x2 :: .int x :: r) h Q ↔ mm_wp d y (pc + 1) ls (.int (x &&& x2) :: r) h Q := wp_go hc rfl
theorem wp_idiv (hc : tb_cod y pc = some (.idiv, 1)) : mm_wp d y pc ls (.int x2 :: .int x :: r) h Q ↔ ¬ x2 = 0 ∧ mm_wp d y (pc + 1) ls (.int (x / x2) :: r) h Q := wp_if _ hc rfl
theorem wp_irem (hc : tb_cod y pc = some (.irem, 1)) : mm_wp d y pc ls (.int x2 :: .int x :: r) h Q ↔ ¬ x2 = 0 ∧ mm_wp d y (pc + 1) ls (.int (x - x / x2 * x2) :: r) h Q := wp_if _ hc rfl
theorem wp_ladd (hc : tb_cod y pc = some (.ladd, 1)) : mm_wp d y pc ls (.long w2 :: .long w :: r) h Q ↔ mm_wp d y (pc + 1) ls (.long (w + w2) :: r) h Q := wp_go hc rfl
theorem wp_lmul (hc : tb_cod y pc = some (.lmul, 1)) : mm_wp d y pc ls (.long w2 :: .long w :: r) h Q ↔ mm_wp d y (pc + 1) ls (.long (w * w2) :: r) h Q := wp_go hc rfl
theorem wp_ldiv (hc : tb_cod y pc = some (.ldiv, 1)) : mm_wp d y pc ls (.long w2 :: .long w :: r) h Q ↔ ¬ w2 = 0 ∧ mm_wp d y (pc + 1) ls (.long (w / w2) :: r) h Q := wp_if _ hc rfl
theorem wp_lrem (hc : tb_cod y pc = some (.lrem, 1)) : mm_wp d y pc ls (.long w2 :: .long w :: r) h Q ↔ ¬ w2 = 0 ∧ mm_wp d y (pc + 1) ls (.long (w - w / w2 * w2) :: r) h Q := wp_if _ hc rfl
theorem wp_lneg (hc : tb_cod y pc = some (.lneg, 1)) : mm_wp d y pc ls (.long w :: r) h Q ↔ mm_wp d y (pc + 1) ls (.long (-w) :: r) h Q := wp_go hc rfl
theorem wp_i2l (hc : tb_cod y pc = some (.i2l, 1)) : mm_wp d y pc ls (.int x :: r) h Q ↔ mm_wp d y (pc + 1) ls (.long x.toInt64 :: r) h Q := wp_go hc rfl
theorem wp_l2i (hc : tb_cod y pc = some (.l2i, 1)) : mm_wp d y pc ls (.long w :: r) h Q ↔ mm_wp d y (pc + 1) ls (.int w.toInt32 :: r) h Q := wp_go hc rfl
theorem wp_lcmp (hc : tb_cod y pc = some (.lcmp, 1)) : mm_wp d y pc ls (.long w2 :: .long w :: r) h Q ↔ mm_wp d y (pc + 1) ls (.int (if w2 < w then 1 else if w = w2 then 0 else -1) :: r) h Q := wp_go hc rfl
theorem wp_dupI (hc : tb_cod y pc = some (.dup, 1)) : mm_wp d y pc ls (.int x :: r) h Q ↔ mm_wp d y (pc + 1) ls (.int x :: .int x :: r) h Q := wp_go hc rfl
theorem wp_dupR (hc : tb_cod y pc = some (.dup, 1)) : mm_wp d y pc ls (.ref a :: r) h Q ↔ mm_wp d y (pc + 1) ls (.ref a :: .ref a :: r) h Q := wp_go hc rfl
theorem wp_popI (hc : tb_cod y pc = some (.pop, 1)) : mm_wp d y pc ls (.int x :: r) h Q ↔ mm_wp d y (pc + 1) ls r h Q := wp_go hc rfl
theorem wp_popR (hc : tb_cod y pc = some (.pop, 1)) : mm_wp d y pc ls (.ref a :: r) h Q ↔ mm_wp d y (pc + 1) ls r h Q := wp_go hc rfl
theorem wp_dup2 (hc : tb_cod y pc = some (.dup2, 1)) : mm_wp d y pc ls (.int x :: .ref a :: r) h Q ↔ mm_wp d y (pc + 1) ls (.int x :: .ref a :: .int x :: .ref a :: r) h Q := wp_go hc rfl
theorem wp_ifeq (hc : tb_cod y pc = some (.ifCond .eq off, 3)) (ht : mm_t pc off = t) : mm_wp d y pc ls (.int x :: r) h Q ↔ if x = 0 then mm_wp d y t ls r h Q else mm_wp d y (pc + 3) ls r h Q := by subst ht; exact wp_brc hc rfl rfl
theorem wp_ifne (hc : tb_cod y pc = some (.ifCond .ne off, 3)) (ht : mm_t pc off = t) : mm_wp d y pc ls (.int x :: r) h Q ↔ if x = 0 then mm_wp d y (pc + 3) ls r h Q else mm_wp d y t ls r h Q := by
  subst ht
  rw [wp_brc (P := ¬ x = 0) hc rfl rfl]
  by_cases hx : x = 0 <;> simp [hx]
theorem wp_iflt (hc : tb_cod y pc = some (.ifCond .lt off, 3)) (ht : mm_t pc off = t) : mm_wp d y pc ls (.int x :: r) h Q ↔ if x < 0 then mm_wp d y t ls r h Q else mm_wp d y (pc + 3) ls r h Q := by subst ht; exact wp_brc hc rfl rfl
theorem wp_ifge (hc : tb_cod y pc = some (.ifCond .ge off, 3)) (ht : mm_t pc off = t) : mm_wp d y pc ls (.int x :: r) h Q ↔ if 0 ≤ x then mm_wp d y t ls r h Q else mm_wp d y (pc + 3) ls r h Q := by subst ht; exact wp_brc hc rfl rfl
theorem wp_ifgt (hc : tb_cod y pc = some (.ifCond .gt off, 3)) (ht : mm_t pc off = t) : mm_wp d y pc ls (.int x :: r) h Q ↔ if 0 < x then mm_wp d y t ls r h Q else mm_wp d y (pc + 3) ls r h Q := by subst ht; exact wp_brc hc rfl rfl
theorem wp_ifle (hc : tb_cod y pc = some (.ifCond .le off, 3)) (ht : mm_t pc off = t) : mm_wp d y pc ls (.int x :: r) h Q ↔ if x ≤ 0 then mm_wp d y t ls r h Q else mm_wp d y (pc + 3) ls r h Q := by subst ht; exact wp_brc hc rfl rfl
theorem wp_icmpeq (hc : tb_cod y pc = some (.if_icmp .eq off, 3)) (ht : mm_t pc off = t) : mm_wp d y pc ls (.int x2 :: .int x :: r) h Q ↔ if x = x2 then mm_wp d y t ls r h Q else mm_wp d y (pc + 3) ls r h Q := by subst ht; exact wp_brc hc rfl rfl
theorem wp_icmpne (hc : tb_cod y pc = some (.if_icmp .ne off, 3)) (ht : mm_t pc off = t) : mm_wp d y pc ls (.int x2 :: .int x :: r) h Q ↔ if x = x2 then mm_wp d y (pc + 3) ls r h Q else mm_wp d y t ls r h Q := by
  subst ht
  rw [wp_brc (P := ¬ x = x2) hc rfl rfl]
  by_cases hx : x = x2 <;> simp [hx]
theorem wp_icmplt (hc : tb_cod y pc = some (.if_icmp .lt off, 3)) (ht : mm_t pc off = t) : mm_wp d y pc ls (.int x2 :: .int x :: r) h Q ↔ if x < x2 then mm_wp d y t ls r h Q else mm_wp d y (pc + 3) ls r h Q := by subst ht; exact wp_brc hc rfl rfl
theorem wp_icmpge (hc : tb_cod y pc = some (.if_icmp .ge off, 3)) (ht : mm_t pc off = t) : mm_wp d y pc ls (.int x2 :: .int x :: r) h Q ↔ if x2 ≤ x then mm_wp d y t ls r h Q else mm_wp d y (pc + 3) ls r h Q := by subst ht; exact wp_brc hc rfl rfl
theorem wp_icmpgt (hc : tb_cod y pc = some (.if_icmp .gt off, 3)) (ht : mm_t pc off = t) : mm_wp d y pc ls (.int x2 :: .int x :: r) h Q ↔ if x2 < x then mm_wp d y t ls r h Q else mm_wp d y (pc + 3) ls r h Q := by subst ht; exact wp_brc hc rfl rfl
theorem wp_icmple (hc : tb_cod y pc = some (.if_icmp .le off, 3)) (ht : mm_t pc off = t) : mm_wp d y pc ls (.int x2 :: .int x :: r) h Q ↔ if x ≤ x2 then mm_wp d y t ls r h Q else mm_wp d y (pc + 3) ls r h Q := by subst ht; exact wp_brc hc rfl rfl
theorem wp_ifnull (hc : tb_cod y pc = some (.ifnull off, 3)) (ht : mm_t pc off = t) (o : Option Nat) : mm_wp d y pc ls (mm_o o :: r) h Q ↔ if o = none then mm_wp d y t ls r h Q else mm_wp d y (pc + 3) ls r h Q := by
  subst ht
  cases o
  · exact wp_go hc rfl
  · exact wp_go hc rfl
theorem wp_ifnonnull (hc : tb_cod y pc = some (.ifnonnull off, 3)) (ht : mm_t pc off = t) (o : Option Nat) : mm_wp d y pc ls (mm_o o :: r) h Q ↔ if o = none then mm_wp d y (pc + 3) ls r h Q else mm_wp d y t ls r h Q := by
  subst ht
  cases o
  · exact wp_go hc rfl
  · exact wp_go hc rfl
theorem wp_goto (hc : tb_cod y pc = some (.goto off, 3)) (ht : mm_t pc off = t) : mm_wp d y pc ls st h Q ↔ mm_wp d y t ls st h Q := by subst ht; exact wp_go hc rfl
theorem wp_tabOut {dd lo hi : Int} {offs : Array Int} (hc : tb_cod y pc = some (.tableswitch dd lo hi offs, len)) (hx : x.toInt < lo ∨ hi < x.toInt) (ht : mm_t pc dd = t) : mm_wp d y pc ls (.int x :: r) h Q ↔ mm_wp d y t ls r h Q := by
  subst ht
  exact wp_go hc (by simp only [mm_act]; rw [if_pos hx])
theorem wp_tabIn {dd lo hi : Int} {offs : Array Int} (hc : tb_cod y pc = some (.tableswitch dd lo hi offs, len)) (hx : ¬ (x.toInt < lo ∨ hi < x.toInt)) (ht : mm_t pc (offs.toList.getD (x.toInt - lo).toNat 0) = t) : mm_wp d y pc ls (.int x :: r) h Q ↔ mm_wp d y t ls r h Q := by
  subst ht
  exact wp_go hc (by simp only [mm_act]; rw [if_neg hx])
theorem wp_getI {ty : Nat} (hc : tb_cod y pc = some (.getfield k, 3)) (hf : tb_fl y k = some (kd, p, ty)) (h1 : ¬ ty = 1) (h2 : ¬ ty = 2) : mm_wp d y pc ls (.ref a :: r) h Q ↔ (mm_s h a).1 = kd ∧ mm_wp d y (pc + 3) ls (.int (mm_i h a p) :: r) h Q := wp_if inferInstance hc (by simp only [mm_act, hf, h1, h2, if_false])
theorem wp_getL (hc : tb_cod y pc = some (.getfield k, 3)) (hf : tb_fl y k = some (kd, p, 1)) : mm_wp d y pc ls (.ref a :: r) h Q ↔ (mm_s h a).1 = kd ∧ mm_wp d y (pc + 3) ls (.long (mm_l h a p) :: r) h Q := wp_if inferInstance hc (by simp only [mm_act, hf, if_true])
theorem wp_getR (hc : tb_cod y pc = some (.getfield k, 3)) (hf : tb_fl y k = some (kd, p, 2)) : mm_wp d y pc ls (.ref a :: r) h Q ↔ (mm_s h a).1 = kd ∧ mm_wp d y (pc + 3) ls (mm_o (mm_r h a p) :: r) h Q := wp_if inferInstance hc (by simp [mm_act, hf])
theorem wp_putI (hc : tb_cod y pc = some (.putfield k, 3)) (hf : tb_fl y k = some (kd, p, 0)) : mm_wp d y pc ls (.int x :: .ref a :: r) h Q ↔ (mm_s h a).1 = kd ∧ mm_wp d y (pc + 3) ls r (mm_pi h a p x) Q := by
  rw [wp_if (c := (mm_s h a).1 = kd ∧ ((0 : Nat) = 0 ∨ (0 : Nat) = 3 ∧ (x = 0 ∨ x = 1))) (pc' := pc + 3) (ls' := ls) (st' := r) (h' := mm_pi h a p x) inferInstance hc (by simp only [mm_act, hf])]
  simp
theorem wp_putZ (hc : tb_cod y pc = some (.putfield k, 3)) (hf : tb_fl y k = some (kd, p, 3)) : mm_wp d y pc ls (.int x :: .ref a :: r) h Q ↔ (mm_s h a).1 = kd ∧ (x = 0 ∨ x = 1) ∧ mm_wp d y (pc + 3) ls r (mm_pi h a p x) Q := by
  rw [wp_if (c := (mm_s h a).1 = kd ∧ ((3 : Nat) = 0 ∨ (3 : Nat) = 3 ∧ (x = 0 ∨ x = 1))) (pc' := pc + 3) (ls' := ls) (st' := r) (h' := mm_pi h a p x) inferInstance hc (by simp only [mm_act, hf])]
  simp [and_assoc]
theorem wp_putL (hc : tb_cod y pc = some (.putfield k, 3)) (hf : tb_fl y k = some (kd, p, 1)) : mm_wp d y pc ls (.long w :: .ref a :: r) h Q ↔ (mm_s h a).1 = kd ∧ mm_wp d y (pc + 3) ls r (mm_pl h a p w) Q := by
  rw [wp_if (c := (mm_s h a).1 = kd ∧ (1 : Nat) = 1) (pc' := pc + 3) (ls' := ls) (st' := r) (h' := mm_pl h a p w) inferInstance hc (by simp only [mm_act, hf])]
  simp
theorem wp_putR (hc : tb_cod y pc = some (.putfield k, 3)) (hf : tb_fl y k = some (kd, p, 2)) : mm_wp d y pc ls (.ref b :: .ref a :: r) h Q ↔ (mm_s h a).1 = kd ∧ mm_wp d y (pc + 3) ls r (mm_pr h a p (some b)) Q := by
  rw [wp_if (c := (mm_s h a).1 = kd ∧ (2 : Nat) = 2) (pc' := pc + 3) (ls' := ls) (st' := r) (h' := mm_pr h a p (some b)) inferInstance hc (by simp only [mm_act, hf])]
  simp
theorem mm_inI {j : Int32} {n : Nat} : mm_in j n = true ↔ 0 ≤ j.toInt ∧ j.toInt < n := by
  simp only [mm_in, Bool.and_eq_true, decide_eq_true_eq, Int32.le_iff_toInt_le]
  have h0 : (0 : Int32).toInt = 0 := rfl
  rw [h0]
  constructor
  · rintro ⟨h1, h2⟩
    refine ⟨h1, ?_⟩
    have : j.toNatClampNeg = j.toInt.toNat := rfl
    omega
  · rintro ⟨h1, h2⟩
    refine ⟨h1, ?_⟩
    have : j.toNatClampNeg = j.toInt.toNat := rfl
    omega
theorem wp_iaload (hc : tb_cod y pc = some (.iaload, 1)) : mm_wp d y pc ls (.int x :: .ref a :: r) h Q ↔ ((mm_s h a).1 = 20 ∧ mm_in x (mm_s h a).2 = true) ∧ mm_wp d y (pc + 1) ls (.int (mm_i h a x.toNatClampNeg) :: r) h Q := wp_if _ hc rfl
theorem wp_laload (hc : tb_cod y pc = some (.laload, 1)) : mm_wp d y pc ls (.int x :: .ref a :: r) h Q ↔ ((mm_s h a).1 = 21 ∧ mm_in x (mm_s h a).2 = true) ∧ mm_wp d y (pc + 1) ls (.long (mm_l h a x.toNatClampNeg) :: r) h Q := wp_if _ hc rfl
theorem wp_baload (hc : tb_cod y pc = some (.baload, 1)) : mm_wp d y pc ls (.int x :: .ref a :: r) h Q ↔ ((mm_s h a).1 = 22 ∧ mm_in x (mm_s h a).2 = true) ∧ mm_wp d y (pc + 1) ls (.int (mm_i h a x.toNatClampNeg) :: r) h Q := wp_if _ hc rfl
theorem wp_aaload (hc : tb_cod y pc = some (.aaload, 1)) : mm_wp d y pc ls (.int x :: .ref a :: r) h Q ↔ (23 ≤ (mm_s h a).1 ∧ (mm_s h a).1 ≤ 26 ∧ mm_in x (mm_s h a).2 = true) ∧ mm_wp d y (pc + 1) ls (mm_o (mm_r h a x.toNatClampNeg) :: r) h Q := wp_if _ hc rfl
theorem wp_iastore (hc : tb_cod y pc = some (.iastore, 1)) : mm_wp d y pc ls (.int x2 :: .int x :: .ref a :: r) h Q ↔ ((mm_s h a).1 = 20 ∧ ¬ a = 0 ∧ mm_in x (mm_s h a).2 = true) ∧ mm_wp d y (pc + 1) ls r (mm_pi h a x.toNatClampNeg x2) Q := wp_if _ hc rfl
theorem wp_lastore (hc : tb_cod y pc = some (.lastore, 1)) : mm_wp d y pc ls (.long w :: .int x :: .ref a :: r) h Q ↔ ((mm_s h a).1 = 21 ∧ mm_in x (mm_s h a).2 = true) ∧ mm_wp d y (pc + 1) ls r (mm_pl h a x.toNatClampNeg w) Q := wp_if _ hc rfl
theorem wp_bastore (hc : tb_cod y pc = some (.bastore, 1)) : mm_wp d y pc ls (.int x2 :: .int x :: .ref a :: r) h Q ↔ ((mm_s h a).1 = 22 ∧ (x2 = 0 ∨ x2 = 1) ∧ mm_in x (mm_s h a).2 = true) ∧ mm_wp d y (pc + 1) ls r (mm_pi h a x.toNatClampNeg x2) Q := wp_if _ hc rfl
theorem wp_aastore (hc : tb_cod y pc = some (.aastore, 1)) : mm_wp d y pc ls (.ref b :: .int x :: .ref a :: r) h Q ↔ (((mm_s h a).1 = 23 ∧ (mm_s h b).1 = 5 ∨ (mm_s h a).1 = 24 ∧ (mm_s h b).1 = 6 ∨ (mm_s h a).1 = 25 ∧ (mm_s h b).1 = 4) ∧ mm_in x (mm_s h a).2 = true) ∧ mm_wp d y (pc + 1) ls r (mm_pr h a x.toNatClampNeg (some b)) Q := wp_if _ hc rfl
theorem wp_alen (hc : tb_cod y pc = some (.arraylength, 1)) : mm_wp d y pc ls (.ref a :: r) h Q ↔ (20 ≤ (mm_s h a).1 ∧ (mm_s h a).1 ≤ 26) ∧ mm_wp d y (pc + 1) ls (.int (nI (mm_s h a).2) :: r) h Q := wp_if _ hc rfl
theorem wp_new {sl : Nat} (hc : tb_cod y pc = some (.new k, 3)) (hk : tb_ck y k = some kd) (hs : tb_sl kd = sl) (h26 : (kd == 26) = false) : mm_wp d y pc ls st h Q ↔ mm_wp d y (pc + 3) ls (.ref (mm_n h) :: st) (mm_nw h kd sl sl) Q := by subst hs; exact wp_go hc (by simp only [mm_act, hk, mm_if, if_pos (show kd ≠ 26 from fun q => by subst q; cases h26)])
theorem wp_newI (hc : tb_cod y pc = some (.newarray .int, 2)) : mm_wp d y pc ls (.int x :: r) h Q ↔ (0 ≤ x ∧ x ≤ 1000) ∧ mm_wp d y (pc + 2) ls (.ref (mm_n h) :: r) (mm_nw h 20 x.toNatClampNeg x.toNatClampNeg) Q := by
  rw [wp_if (c := 0 ≤ x ∧ x ≤ 1000 ∧ (ClassFile.ArrayType.int = .int ∨ ClassFile.ArrayType.int = .long ∨ ClassFile.ArrayType.int = .boolean)) inferInstance hc rfl]
  simp
theorem wp_newL (hc : tb_cod y pc = some (.newarray .long, 2)) : mm_wp d y pc ls (.int x :: r) h Q ↔ (0 ≤ x ∧ x ≤ 1000) ∧ mm_wp d y (pc + 2) ls (.ref (mm_n h) :: r) (mm_nw h 21 x.toNatClampNeg x.toNatClampNeg) Q := by
  rw [wp_if (c := 0 ≤ x ∧ x ≤ 1000 ∧ (ClassFile.ArrayType.long = .int ∨ ClassFile.ArrayType.long = .long ∨ ClassFile.ArrayType.long = .boolean)) inferInstance hc rfl]
  simp
theorem wp_newZ (hc : tb_cod y pc = some (.newarray .boolean, 2)) : mm_wp d y pc ls (.int x :: r) h Q ↔ (0 ≤ x ∧ x ≤ 1000) ∧ mm_wp d y (pc + 2) ls (.ref (mm_n h) :: r) (mm_nw h 22 x.toNatClampNeg x.toNatClampNeg) Q := by
  rw [wp_if (c := 0 ≤ x ∧ x ≤ 1000 ∧ (ClassFile.ArrayType.boolean = .int ∨ ClassFile.ArrayType.boolean = .long ∨ ClassFile.ArrayType.boolean = .boolean)) inferInstance hc rfl]
  simp
theorem wp_newA {ka : Nat} (hc : tb_cod y pc = some (.anewarray k, 3)) (hk : tb_ck y k = some kd) (hd : kd = 5 ∧ ka = 23 ∨ kd = 6 ∧ ka = 24 ∨ kd = 4 ∧ ka = 25) : mm_wp d y pc ls (.int x :: r) h Q ↔ (0 ≤ x ∧ x ≤ 1000) ∧ mm_wp d y (pc + 3) ls (.ref (mm_n h) :: r) (mm_nw h ka x.toNatClampNeg x.toNatClampNeg) Q := by
  rw [wp_if (c := 0 ≤ x ∧ x ≤ 1000 ∧ (kd = 5 ∨ kd = 6 ∨ kd = 4)) inferInstance hc (by simp only [mm_act, hk]; rfl)]
  rcases hd with ⟨rfl, rfl⟩ | ⟨rfl, rfl⟩ | ⟨rfl, rfl⟩ <;> simp
theorem wp_newM (hc : tb_cod y pc = some (.multianewarray k 2, 4)) (hk : tb_ck y k = some 26) : mm_wp d y pc ls (.int x2 :: .int x :: r) h Q ↔ (0 ≤ x ∧ x ≤ 1000 ∧ 0 ≤ x2 ∧ x2 ≤ 1000) ∧ mm_wp d y (pc + 4) ls (.ref (mm_n h) :: r) (mm_nw2 h 26 20 x.toNatClampNeg x2.toNatClampNeg) Q := by
  rw [wp_if (c := 0 ≤ x ∧ x ≤ 1000 ∧ 0 ≤ x2 ∧ x2 ≤ 1000 ∧ 2 = 2 ∧ 26 = 26) inferInstance hc (by simp only [mm_act, hk]; rfl)]
  simp
theorem wp_iret (hc : tb_cod y pc = some (.ireturn, 1)) (ht : tb_rt y = 1) : mm_wp d y pc ls (.int x :: r) h Q ↔ Q (.inl (some (.int x))) h := by
  rw [wp_retif (c := tb_rt y = 1 ∨ tb_rt y = 3 ∧ (x = 0 ∨ x = 1)) inferInstance hc rfl]
  simp [ht]
theorem wp_zret (hc : tb_cod y pc = some (.ireturn, 1)) (ht : tb_rt y = 3) : mm_wp d y pc ls (.int x :: r) h Q ↔ (x = 0 ∨ x = 1) ∧ Q (.inl (some (.int x))) h := by
  rw [wp_retif (c := tb_rt y = 1 ∨ tb_rt y = 3 ∧ (x = 0 ∨ x = 1)) inferInstance hc rfl]
  simp [ht]
theorem wp_lret (hc : tb_cod y pc = some (.lreturn, 1)) (ht : tb_rt y = 2) : mm_wp d y pc ls (.long w :: r) h Q ↔ Q (.inl (some (.long w))) h := by
  rw [wp_retif (c := tb_rt y = 2) inferInstance hc rfl]
  simp [ht]
theorem wp_aret (hc : tb_cod y pc = some (.areturn, 1)) (ht : tb_rt y = 4) (o : Option Nat) : mm_wp d y pc ls (mm_o o :: r) h Q ↔ Q (.inl (some (mm_o o))) h := by
  cases o
  · rw [wp_retif (c := tb_rt y = 4) inferInstance hc rfl]
    simp [ht, mm_o]
  · rw [wp_retif (c := tb_rt y = 4) inferInstance hc rfl]
    simp [ht, mm_o]
theorem wp_vret (hc : tb_cod y pc = some (.return_, 1)) (ht : tb_rt y = 0) : mm_wp d y pc ls st h Q ↔ Q (.inl none) h := by
  rw [wp_retif (c := tb_rt y = 0) inferInstance hc rfl]
  simp [ht]
theorem wp_athrow (hc : tb_cod y pc = some (.athrow, 1)) (hh : tb_han.getD y [] = []) : mm_wp d y pc ls (.ref a :: r) h Q ↔ 30 ≤ (mm_s h a).1 ∧ Q (.inr a) h := wp_thr hc rfl hh
theorem wp_objInit (hc : tb_cod y pc = some (.invokespecial k, 3)) (hk : tb_ca y k = some 1000) (hr : r.length ≤ 8) : mm_wp d y pc ls (.ref a :: r) h Q ↔ mm_wp d y (pc + 3) ls r h Q := wp_go hc (by simp only [mm_act, hk, if_true, mm_if, hr])
theorem wp_excInit {q : UInt32} (hc : tb_cod y pc = some (.invokespecial k, 3)) (hk : tb_ca y k = some z) (hz : 1000 < z) (hkd : z - 971 = kd) (hr : r.length ≤ 8) : mm_wp d y pc ls (.float q :: .ref a :: r) h Q ↔ (mm_s h a).1 = kd ∧ mm_wp d y (pc + 3) ls r h Q := by
  subst hkd
  rw [wp_if (c := (mm_s h a).1 = z - 971 ∧ r.length ≤ 8) (pc' := pc + 3) (ls' := ls) (st' := r) (h' := h) inferInstance hc (by simp only [mm_act, hk, if_neg (show ¬ z = 1000 by omega), if_pos hz])]
  simp [hr]
theorem wp_static {as rest env : List Value} (hc : tb_cod y pc = some (.invokestatic k, 3)) (hk : tb_ca y k = some z) (hz : z < 1000 ∧ tb_sta z = true) (h1 : tb_na z ≤ st.length ∧ st.length ≤ tb_na z + 8) (ha : (st.take (tb_na z)).reverse = as) (hr : st.drop (tb_na z) = rest) (he : mm_ent z as = env) (hok : mm_eok z env = true) : mm_wp (d + 1) y pc ls st h Q ↔ mm_wp d z 0 env [] h (mm_bk (d + 1) y pc ls rest Q) := by
  subst he; subst ha; subst hr
  exact wp_call hc (by simp only [mm_act, hk, mm_if, if_pos hz, mm_call, if_pos (And.intro h1 hok)])
theorem wp_special {as rest env : List Value} (hc : tb_cod y pc = some (.invokespecial k, 3)) (hk : tb_ca y k = some z) (hz : z < 1000 ∧ tb_sta z = false) (h1 : tb_na z ≤ st.length ∧ st.length ≤ tb_na z + 8) (hv : st[tb_na z - 1]? = some (.ref a)) (ha : (st.take (tb_na z)).reverse = as) (hr : st.drop (tb_na z) = rest) (he : mm_ent z as = env) (hok : mm_eok z env = true) : mm_wp (d + 1) y pc ls st h Q ↔ mm_wp d z 0 env [] h (mm_bk (d + 1) y pc ls rest Q) := by
  subst he; subst ha; subst hr
  exact wp_call hc (by simp only [mm_act, hk, if_neg (show ¬ z = 1000 by omega), if_neg (show ¬ 1000 < z by omega), mm_if, hz.2, if_true, mm_callI, hv, mm_call, if_pos (And.intro h1 hok)])
theorem wp_virtual {as rest env : List Value} (hc : tb_cod y pc = some (.invokevirtual k, 3)) (hk : tb_ca y k = some z) (hz : z < 1000 ∧ tb_sta z = false) (h1 : tb_na z ≤ st.length ∧ st.length ≤ tb_na z + 8) (hv : st[tb_na z - 1]? = some (.ref a)) (ha : (st.take (tb_na z)).reverse = as) (hr : st.drop (tb_na z) = rest) (he : mm_ent z as = env) (hok : mm_eok z env = true) (hkd : tb_cls z = kd) : mm_wp (d + 1) y pc ls st h Q ↔ (mm_s h a).1 = kd ∧ mm_wp d z 0 env [] h (mm_bk (d + 1) y pc ls rest Q) := by
  subst he; subst ha; subst hr; subst hkd
  exact wp_callif inferInstance hc (by simp only [mm_act, hk, mm_callV, hv, mm_call]; simp only [mm_if, if_pos hz, if_pos (And.intro h1 hok)])
end
end
section
/-! THE TABLES AGAINST THE STATEMENT'S WORDS, decided -/
def tb_nm (k : Nat) : String := tb_own.getD k ""
def tb_y (y : Nat) : MethodName := ⟨tb_nm (tb_cls y), (tb_met.getD y tb_dm).2.1, (tb_met.getD y tb_dm).2.2.1⟩
def tb_rty (y : Nat) : Option FieldType := match tb_rt y with
  | 0 => none
  | 1 => some .int
  | 2 => some .long
  | 3 => some .boolean
  | _ => if y = 41 then some (.object "LoadRoom$Piece") else some (.object "LoadRoom$Placed")
def tb_tyc (d : String) : Nat := if d = "I" then 0 else if d = "J" then 1 else if d = "Z" then 3 else 2
def tb_f (kd p : Nat) : String × String × String × Bool := tb_u kd p
/-- a method's words, its code's apart -/
def tb_okM (y : Nat) : Bool :=
  let w := tb_mw.getD y (0, 0, 0, 0)
  decide (lw_tbl[w.2.1]? = some (if tb_sta y = true then .static (tb_y y) else .instanceMethod (tb_y y))) &&
  ((tb_sta y || (tb_y y).name == "<init>" || decide (lw_tbl[w.2.2.1]? = some (.selects (tb_y y).cls (tb_y y) (tb_y y)))) &&
  decide (lw_tbl[w.2.2.2]? = some (.initialized (tb_y y).cls)))
/-- a method's code, as the statement says it -/
def tb_cw (y : Nat) : Cond :=
  let hs := (tb_han.getD y []).map (fun q => (q.1, q.2.1, q.2.2.1, q.2.2.2.2))
  if hs = [] then .code (tb_y y) (tb_byt.getD y ⟨#[]⟩) (tb_nL y) (tb_rty y) else .codeWith (tb_y y) (tb_byt.getD y ⟨#[]⟩) (tb_nL y) (tb_rty y) hs
def tb_okF (q : (Nat × Nat) × (Nat × Nat × Nat) × Nat × Bool) : Bool :=
  decide (lw_tbl[q.2.2.1]? = some (if q.2.2.2 = true then .fieldLinkNest (tb_nm q.1.1) q.1.2 (tb_nm q.2.1.1) (tb_f q.2.1.1 q.2.1.2.1).2.1 (tb_f q.2.1.1 q.2.1.2.1).2.2.1 "LoadRoom" else .fieldLink (tb_nm q.1.1) q.1.2 (tb_nm q.2.1.1) (tb_f q.2.1.1 q.2.1.2.1).2.1 (tb_f q.2.1.1 q.2.1.2.1).2.2.1)) &&
  (decide (q.2.1.2.1 < (tb_ty.getD q.2.1.1 []).length) && (decide (q.2.1.1 < 11) && (decide (tb_tyc (tb_f q.2.1.1 q.2.1.2.1).2.2.1 = q.2.1.2.2) && (decide ((tb_ty.getD q.2.1.1 []).getD q.2.1.2.1 0 = q.2.1.2.2) && decide ((tb_f q.2.1.1 q.2.1.2.1).1 = tb_nm q.2.1.1)))))
def tb_okL (kd : Nat) : Bool := (List.range (tb_ty.getD kd []).length).all fun p => decide (lw_tbl[(tb_lay.getD kd []).getD p 0]? = some (u_lay (tb_nm kd) (tb_u kd) p))
def tb_okC (q : (Nat × Nat) × Nat × Nat × Bool) : Bool :=
  if q.2.1 < 1000 then decide (lw_tbl[q.2.2.1]? = some (if q.2.2.2 = true then .methodLinkNest (tb_nm q.1.1) q.1.2 (tb_y q.2.1) "LoadRoom" else .methodLink (tb_nm q.1.1) q.1.2 (tb_y q.2.1))) && decide (0 < q.2.1)
  else if q.2.1 = 1000 then decide (lw_tbl[q.2.2.1]? = some (.methodLink (tb_nm q.1.1) q.1.2 Lib.objectInit))
  else decide (lw_tbl[q.2.2.1]? = some (.methodLink (tb_nm q.1.1) q.1.2 ⟨((tb_kin.lookup (q.2.1 - 971)).getD ("", 0)).1, "<init>", "(Ljava/lang/String;)V"⟩))
def tb_okK (q : (Nat × Nat) × Nat × Nat) : Bool :=
  if q.2.1 < 20 ∨ 30 ≤ q.2.1 then decide (lw_tbl[q.2.2]? = some (.classLink (tb_nm q.1.1) q.1.2 ((tb_kin.lookup q.2.1).getD ("", 0)).1)) else decide (q.2.1 = 26 ∧ lw_tbl[q.2.2]? = some (.classLink (tb_nm q.1.1) q.1.2 "[[I"))
def tb_okS (q : Nat × Nat × Nat) : Bool := decide (lw_tbl[q.2.2]? = some (.instantiable ((tb_kin.lookup q.1).getD ("", 0)).1 q.2.1))
def tb_okI (q : Nat × String × Nat) : Bool := decide (lw_tbl[q.2.2]? = some (.initialized q.2.1))
set_option maxRecDepth 100000 in
theorem tb_okF_all : tb_fld.all tb_okF = true := by decide +kernel
set_option maxRecDepth 100000 in
theorem tb_okL_all : (List.range 11).all tb_okL = true := by decide +kernel
set_option maxRecDepth 100000 in
theorem tb_okC_all : tb_cal.all tb_okC = true := by decide +kernel
set_option maxRecDepth 100000 in
theorem tb_okK_all : tb_cla.all tb_okK = true := by decide +kernel
set_option maxRecDepth 100000 in
theorem tb_okS_all : tb_slt.all tb_okS = true := by decide +kernel
set_option maxRecDepth 100000 in
theorem tb_okI_all : tb_kin.all tb_okI = true := by decide +kernel
/-- an instruction as it stands in the bytes; its jumps go forward from 0 -/
def tb_okT (pc : Nat) : ClassFile.Instr → Bool
  | .goto o => decide (0 ≤ (pc : Int) + o)
  | .ifCond _ o => decide (0 ≤ (pc : Int) + o)
  | .if_icmp _ o => decide (0 ≤ (pc : Int) + o)
  | .ifnull o => decide (0 ≤ (pc : Int) + o)
  | .ifnonnull o => decide (0 ≤ (pc : Int) + o)
  | .tableswitch d lo hi offs => decide (0 ≤ (pc : Int) + d) && (offs.toList.all (fun o => decide (0 ≤ (pc : Int) + o)) && decide ((offs.toList.length : Int) = hi - lo + 1))
  | _ => true
def tb_okD (y c : Nat) : Bool := ((tb_ins.getD y []).getD c []).all fun q => decide ((decode (tb_byt.getD y ⟨#[]⟩) q.1).toOption = some q.2) && tb_okT q.1 q.2.1
end
section
/-! the methods' words: by gen.py -/
set_option maxRecDepth 100000 in
theorem tb_cwi1 : (.code ⟨"LoadRoom", "<init>", "(III)V"⟩ prog_1_method_1_code 4 none : Cond) ∈ lw_tbl := List.mem_append_right _ (List.mem_append_left _ (List.mem_of_getElem? (i := 24) rfl))
set_option maxRecDepth 100000 in
theorem tb_cwi2 : (.code ⟨"LoadRoom", "nearestLength", "(I)I"⟩ prog_1_method_18_code 1 (Option.some FieldType.int) : Cond) ∈ lw_tbl := List.mem_append_right _ (List.mem_append_left _ (List.mem_of_getElem? (i := 32) rfl))
set_option maxRecDepth 100000 in
theorem tb_cwi3 : (.code ⟨"java/lang/Math", "min", "(II)I"⟩ prog_18_method_69_code 2 (Option.some FieldType.int) : Cond) ∈ lw_tbl := List.mem_append_right _ (List.mem_append_left _ (List.mem_of_getElem? (i := 35) rfl))
set_option maxRecDepth 100000 in
theorem tb_cwi4 : (.code ⟨"java/lang/Math", "max", "(II)I"⟩ prog_18_method_65_code 2 (Option.some FieldType.int) : Cond) ∈ lw_tbl := List.mem_append_right _ (List.mem_append_left _ (List.mem_of_getElem? (i := 38) rfl))
set_option maxRecDepth 100000 in
theorem tb_cwi5 : (.code ⟨"LoadRoom$Box", "<init>", "(III)V"⟩ prog_3_method_1_code 4 none : Cond) ∈ lw_tbl := List.mem_append_right _ (List.mem_append_left _ (List.mem_of_getElem? (i := 41) rfl))
set_option maxRecDepth 100000 in
theorem tb_cwi6 : (.code ⟨"LoadRoom$Cargo", "<init>", "(LLoadRoom$Box;)V"⟩ prog_4_method_1_code 3 none : Cond) ∈ lw_tbl := List.mem_append_right _ (List.mem_append_left _ (List.mem_of_getElem? (i := 63) rfl))
set_option maxRecDepth 100000 in
theorem tb_cwi7 : (.code ⟨"LoadRoom$Piece", "<init>", "(LLoadRoom$Box;)V"⟩ prog_7_method_1_code 2 none : Cond) ∈ lw_tbl := List.mem_append_right _ (List.mem_append_left _ (List.mem_of_getElem? (i := 70) rfl))
set_option maxRecDepth 100000 in
theorem tb_cwi8 : (.code ⟨"LoadRoom$Search", "<init>", "(LLoadRoom$Box;LLoadRoom$Cargo;)V"⟩ prog_10_method_1_code 4 none : Cond) ∈ lw_tbl := List.mem_append_right _ (List.mem_append_left _ (List.mem_of_getElem? (i := 126) rfl))
set_option maxRecDepth 100000 in
theorem tb_cwi9 : (.code ⟨"LoadRoom$Row", "<init>", "()V"⟩ prog_9_method_1_code 2 none : Cond) ∈ lw_tbl := List.mem_append_right _ (List.mem_append_left _ (List.mem_of_getElem? (i := 132) rfl))
set_option maxRecDepth 100000 in
theorem tb_cwi10 : (.code ⟨"LoadRoom$Placed", "<init>", "(I)V"⟩ prog_8_method_1_code 2 none : Cond) ∈ lw_tbl := List.mem_append_right _ (List.mem_append_left _ (List.mem_of_getElem? (i := 139) rfl))
set_option maxRecDepth 100000 in
theorem tb_cwi11 : (.code ⟨"LoadRoom$Ends", "<init>", "()V"⟩ prog_5_method_1_code 1 none : Cond) ∈ lw_tbl := List.mem_append_right _ (List.mem_append_right _ (List.mem_append_left _ (List.mem_of_getElem? (i := 2) rfl)))
set_option maxRecDepth 100000 in
theorem tb_cwi12 : (.code ⟨"LoadRoom$Floor", "<init>", "()V"⟩ prog_6_method_1_code 1 none : Cond) ∈ lw_tbl := List.mem_append_right _ (List.mem_append_right _ (List.mem_append_left _ (List.mem_of_getElem? (i := 19) rfl)))
set_option maxRecDepth 100000 in
theorem tb_cwi13 : (.code ⟨"LoadRoom$Axles", "<init>", "()V"⟩ prog_2_method_1_code 1 none : Cond) ∈ lw_tbl := List.mem_append_right _ (List.mem_append_right _ (List.mem_append_left _ (List.mem_of_getElem? (i := 87) rfl)))
set_option maxRecDepth 100000 in
theorem tb_cwi14 : (.code ⟨"LoadRoom", "exact", "()Z"⟩ prog_1_method_8_code 1 (Option.some FieldType.boolean) : Cond) ∈ lw_tbl := List.mem_append_right _ (List.mem_append_right _ (List.mem_append_left _ (List.mem_of_getElem? (i := 113) rfl)))
set_option maxRecDepth 100000 in
theorem tb_cwi15 : (.code ⟨"LoadRoom", "steps", "()I"⟩ prog_1_method_9_code 1 (Option.some FieldType.int) : Cond) ∈ lw_tbl := List.mem_append_right _ (List.mem_append_right _ (List.mem_append_left _ (List.mem_of_getElem? (i := 117) rfl)))
set_option maxRecDepth 100000 in
theorem tb_cwi16 : (.code ⟨"LoadRoom", "bound", "()I"⟩ prog_1_method_10_code 1 (Option.some FieldType.int) : Cond) ∈ lw_tbl := List.mem_append_right _ (List.mem_append_right _ (List.mem_append_left _ (List.mem_of_getElem? (i := 121) rfl)))
set_option maxRecDepth 100000 in
theorem tb_cwi17 : (.code ⟨"LoadRoom$Box", "volume", "()I"⟩ prog_3_method_2_code 1 (Option.some FieldType.int) : Cond) ∈ lw_tbl := List.mem_append_right _ (List.mem_append_right _ (List.mem_append_left _ (List.mem_of_getElem? (i := 125) rfl)))
set_option maxRecDepth 100000 in
theorem tb_cwi18 : (.code ⟨"LoadRoom$Cargo", "volume", "()I"⟩ prog_4_method_6_code 3 (Option.some FieldType.int) : Cond) ∈ lw_tbl := List.mem_append_right _ (List.mem_append_right _ (List.mem_append_left _ (List.mem_of_getElem? (i := 129) rfl)))
set_option maxRecDepth 100000 in
theorem tb_cwi19 : (.code ⟨"LoadRoom$Piece", "volume", "()I"⟩ prog_7_method_4_code 1 (Option.some FieldType.int) : Cond) ∈ lw_tbl := List.mem_append_right _ (List.mem_append_right _ (List.mem_append_left _ (List.mem_of_getElem? (i := 133) rfl)))
set_option maxRecDepth 100000 in
theorem tb_cwi20 : (.code ⟨"LoadRoom", "moment", "()J"⟩ prog_1_method_12_code 1 (Option.some FieldType.long) : Cond) ∈ lw_tbl := List.mem_append_right _ (List.mem_append_right _ (List.mem_append_left _ (List.mem_of_getElem? (i := 137) rfl)))
set_option maxRecDepth 100000 in
theorem tb_cwi21 : (.code ⟨"LoadRoomLaw", "cell", "([II)I"⟩ method_2_code 2 (Option.some FieldType.int) : Cond) ∈ lw_tbl := List.mem_append_right _ (List.mem_append_right _ (List.mem_append_left _ (List.mem_of_getElem? (i := 140) rfl)))
set_option maxRecDepth 100000 in
theorem tb_cwi22 : (.codeWith ⟨"LoadRoomLaw", "piece", "(LLoadRoom;IIII[J)I"⟩ method_3_code 7 (Option.some FieldType.int) [(0, 14, 17, 13), (0, 14, 21, 15)] : Cond) ∈ lw_tbl := List.mem_append_right _ (List.mem_append_right _ (List.mem_append_left _ (List.mem_of_getElem? (i := 143) rfl)))
set_option maxRecDepth 100000 in
theorem tb_cwi23 : (.code ⟨"LoadRoom", "piece", "(IIII)I"⟩ prog_1_method_2_code 5 (Option.some FieldType.int) : Cond) ∈ lw_tbl := List.mem_append_right _ (List.mem_append_right _ (List.mem_append_left _ (List.mem_of_getElem? (i := 149) rfl)))
set_option maxRecDepth 100000 in
theorem tb_cwi24 : (.code ⟨"LoadRoom", "isLength", "(I)Z"⟩ prog_1_method_17_code 1 (Option.some FieldType.boolean) : Cond) ∈ lw_tbl := List.mem_append_right _ (List.mem_append_right _ (List.mem_append_left _ (List.mem_of_getElem? (i := 152) rfl)))
set_option maxRecDepth 100000 in
theorem tb_cwi25 : (.code ⟨"LoadRoom", "isWithin", "(III)Z"⟩ prog_1_method_16_code 3 (Option.some FieldType.boolean) : Cond) ∈ lw_tbl := List.mem_append_right _ (List.mem_append_right _ (List.mem_append_left _ (List.mem_of_getElem? (i := 155) rfl)))
set_option maxRecDepth 100000 in
theorem tb_cwi26 : (.code ⟨"LoadRoom$Cargo", "isFull", "()Z"⟩ prog_4_method_2_code 1 (Option.some FieldType.boolean) : Cond) ∈ lw_tbl := List.mem_append_right _ (List.mem_append_right _ (List.mem_append_left _ (List.mem_of_getElem? (i := 229) rfl)))
set_option maxRecDepth 100000 in
theorem tb_cwi27 : (.code ⟨"LoadRoom$Search", "forget", "()V"⟩ prog_10_method_2_code 1 none : Cond) ∈ lw_tbl := List.mem_append_right _ (List.mem_append_right _ (List.mem_append_right _ (List.mem_append_left _ (List.mem_of_getElem? (i := 9) rfl))))
set_option maxRecDepth 100000 in
theorem tb_cwi28 : (.code ⟨"LoadRoom$Row", "clear", "()V"⟩ prog_9_method_2_code 1 none : Cond) ∈ lw_tbl := List.mem_append_right _ (List.mem_append_right _ (List.mem_append_right _ (List.mem_append_left _ (List.mem_of_getElem? (i := 13) rfl))))
set_option maxRecDepth 100000 in
theorem tb_cwi29 : (.code ⟨"LoadRoom$Cargo", "add", "(IIII)I"⟩ prog_4_method_3_code 5 (Option.some FieldType.int) : Cond) ∈ lw_tbl := List.mem_append_right _ (List.mem_append_right _ (List.mem_append_right _ (List.mem_append_left _ (List.mem_of_getElem? (i := 17) rfl))))
set_option maxRecDepth 100000 in
theorem tb_cwi30 : (.code ⟨"LoadRoom$Piece", "become", "(IIII)V"⟩ prog_7_method_2_code 5 none : Cond) ∈ lw_tbl := List.mem_append_right _ (List.mem_append_right _ (List.mem_append_right _ (List.mem_append_left _ (List.mem_of_getElem? (i := 22) rfl))))
set_option maxRecDepth 100000 in
theorem tb_cwi31 : (.code ⟨"LoadRoom$Piece", "mark", "(I)V"⟩ prog_7_method_3_code 3 none : Cond) ∈ lw_tbl := List.mem_append_right _ (List.mem_append_right _ (List.mem_append_right _ (List.mem_append_left _ (List.mem_of_getElem? (i := 27) rfl))))
set_option maxRecDepth 100000 in
theorem tb_cwi32 : (.code ⟨"LoadRoom$Piece", "counts", "(I)Z"⟩ prog_7_method_10_code 3 (Option.some FieldType.boolean) : Cond) ∈ lw_tbl := List.mem_append_right _ (List.mem_append_right _ (List.mem_append_right _ (List.mem_append_left _ (List.mem_of_getElem? (i := 31) rfl))))
set_option maxRecDepth 100000 in
theorem tb_cwi33 : (.code ⟨"LoadRoom$Piece", "allows", "(I)Z"⟩ prog_7_method_8_code 2 (Option.some FieldType.boolean) : Cond) ∈ lw_tbl := List.mem_append_right _ (List.mem_append_right _ (List.mem_append_right _ (List.mem_append_left _ (List.mem_of_getElem? (i := 35) rfl))))
set_option maxRecDepth 100000 in
theorem tb_cwi34 : (.code ⟨"LoadRoom$Piece", "looksAlike", "(II)Z"⟩ prog_7_method_9_code 3 (Option.some FieldType.boolean) : Cond) ∈ lw_tbl := List.mem_append_right _ (List.mem_append_right _ (List.mem_append_right _ (List.mem_append_left _ (List.mem_of_getElem? (i := 39) rfl))))
set_option maxRecDepth 100000 in
theorem tb_cwi35 : (.code ⟨"LoadRoom$Piece", "widthIn", "(I)I"⟩ prog_7_method_5_code 2 (Option.some FieldType.int) : Cond) ∈ lw_tbl := List.mem_append_right _ (List.mem_append_right _ (List.mem_append_right _ (List.mem_append_left _ (List.mem_of_getElem? (i := 43) rfl))))
set_option maxRecDepth 100000 in
theorem tb_cwi36 : (.code ⟨"LoadRoom$Piece", "heightIn", "(I)I"⟩ prog_7_method_6_code 2 (Option.some FieldType.int) : Cond) ∈ lw_tbl := List.mem_append_right _ (List.mem_append_right _ (List.mem_append_right _ (List.mem_append_left _ (List.mem_of_getElem? (i := 47) rfl))))
set_option maxRecDepth 100000 in
theorem tb_cwi37 : (.code ⟨"LoadRoom$Piece", "depthIn", "(I)I"⟩ prog_7_method_7_code 2 (Option.some FieldType.int) : Cond) ∈ lw_tbl := List.mem_append_right _ (List.mem_append_right _ (List.mem_append_right _ (List.mem_append_left _ (List.mem_of_getElem? (i := 51) rfl))))
set_option maxRecDepth 100000 in
theorem tb_cwi38 : (.code ⟨"LoadRoom$Piece", "goesIn", "(I)Z"⟩ prog_7_method_11_code 2 (Option.some FieldType.boolean) : Cond) ∈ lw_tbl := List.mem_append_right _ (List.mem_append_right _ (List.mem_append_right _ (List.mem_append_left _ (List.mem_of_getElem? (i := 55) rfl))))
set_option maxRecDepth 100000 in
theorem tb_cwi39 : (.codeWith ⟨"LoadRoomLaw", "turn", "(LLoadRoom;II[J)I"⟩ method_4_code 5 (Option.some FieldType.int) [(0, 10, 13, 21), (0, 10, 17, 13)] : Cond) ∈ lw_tbl := List.mem_append_right _ (List.mem_append_right _ (List.mem_append_right _ (List.mem_append_left _ (List.mem_of_getElem? (i := 58) rfl))))
set_option maxRecDepth 100000 in
theorem tb_cwi40 : (.code ⟨"LoadRoom", "turn", "(II)I"⟩ prog_1_method_3_code 5 (Option.some FieldType.int) : Cond) ∈ lw_tbl := List.mem_append_right _ (List.mem_append_right _ (List.mem_append_right _ (List.mem_append_left _ (List.mem_of_getElem? (i := 63) rfl))))
set_option maxRecDepth 100000 in
theorem tb_cwi41 : (.code ⟨"LoadRoom$Cargo", "get", "(I)LLoadRoom$Piece;"⟩ prog_4_method_5_code 2 (Option.some (FieldType.object "LoadRoom$Piece")) : Cond) ∈ lw_tbl := List.mem_append_right _ (List.mem_append_right _ (List.mem_append_right _ (List.mem_append_left _ (List.mem_of_getElem? (i := 67) rfl))))
set_option maxRecDepth 100000 in
theorem tb_cwi42 : (.code ⟨"LoadRoom$Cargo", "demand", "(I)V"⟩ prog_4_method_4_code 2 none : Cond) ∈ lw_tbl := List.mem_append_right _ (List.mem_append_right _ (List.mem_append_right _ (List.mem_append_left _ (List.mem_of_getElem? (i := 71) rfl))))
set_option maxRecDepth 100000 in
theorem tb_cwi43 : (.codeWith ⟨"LoadRoomLaw", "order", "(LLoadRoom;II[J)I"⟩ method_5_code 5 (Option.some FieldType.int) [(0, 10, 13, 21), (0, 10, 17, 13)] : Cond) ∈ lw_tbl := List.mem_append_right _ (List.mem_append_right _ (List.mem_append_right _ (List.mem_append_left _ (List.mem_of_getElem? (i := 92) rfl))))
set_option maxRecDepth 100000 in
theorem tb_cwi44 : (.code ⟨"LoadRoom", "order", "(II)I"⟩ prog_1_method_4_code 5 (Option.some FieldType.int) : Cond) ∈ lw_tbl := List.mem_append_right _ (List.mem_append_right _ (List.mem_append_right _ (List.mem_append_left _ (List.mem_of_getElem? (i := 96) rfl))))
set_option maxRecDepth 100000 in
theorem tb_cwi45 : (.codeWith ⟨"LoadRoomLaw", "limit", "(LLoadRoom;II[J)I"⟩ method_6_code 5 (Option.some FieldType.int) [(0, 10, 13, 21), (0, 10, 17, 13)] : Cond) ∈ lw_tbl := List.mem_append_right _ (List.mem_append_right _ (List.mem_append_right _ (List.mem_append_left _ (List.mem_of_getElem? (i := 100) rfl))))
set_option maxRecDepth 100000 in
theorem tb_cwi46 : (.code ⟨"LoadRoom", "limit", "(II)I"⟩ prog_1_method_5_code 5 (Option.some FieldType.int) : Cond) ∈ lw_tbl := List.mem_append_right _ (List.mem_append_right _ (List.mem_append_right _ (List.mem_append_left _ (List.mem_of_getElem? (i := 104) rfl))))
set_option maxRecDepth 100000 in
theorem tb_cwi47 : (.codeWith ⟨"LoadRoomLaw", "fits", "(LLoadRoom;I[J)I"⟩ method_7_code 4 (Option.some FieldType.int) [(0, 9, 12, 21)] : Cond) ∈ lw_tbl := List.mem_append_right _ (List.mem_append_right _ (List.mem_append_right _ (List.mem_append_left _ (List.mem_of_getElem? (i := 109) rfl))))
set_option maxRecDepth 100000 in
theorem tb_cwi48 : (.code ⟨"LoadRoom", "fits", "(I)I"⟩ prog_1_method_6_code 2 (Option.some FieldType.int) : Cond) ∈ lw_tbl := List.mem_append_right _ (List.mem_append_right _ (List.mem_append_right _ (List.mem_append_left _ (List.mem_of_getElem? (i := 113) rfl))))
set_option maxRecDepth 100000 in
theorem tb_cwi49 : (.codeWith ⟨"LoadRoomLaw", "pack", "(LLoadRoom;I[J)I"⟩ method_8_code 4 (Option.some FieldType.int) [(0, 9, 12, 13)] : Cond) ∈ lw_tbl := List.mem_append_right _ (List.mem_append_right _ (List.mem_append_right _ (List.mem_append_left _ (List.mem_of_getElem? (i := 116) rfl))))
set_option maxRecDepth 100000 in
theorem tb_cwi50 : (.code ⟨"LoadRoom", "pack", "(I)I"⟩ prog_1_method_7_code 2 (Option.some FieldType.int) : Cond) ∈ lw_tbl := List.mem_append_right _ (List.mem_append_right _ (List.mem_append_right _ (List.mem_append_left _ (List.mem_of_getElem? (i := 120) rfl))))
set_option maxRecDepth 100000 in
theorem tb_cwi51 : (.code ⟨"LoadRoom$Search", "start", "(I)V"⟩ prog_10_method_3_code 2 none : Cond) ∈ lw_tbl := List.mem_append_right _ (List.mem_append_right _ (List.mem_append_right _ (List.mem_append_left _ (List.mem_of_getElem? (i := 125) rfl))))
set_option maxRecDepth 100000 in
theorem tb_cwi52 : (.code ⟨"LoadRoom$Search", "goBehind", "(I)V"⟩ prog_10_method_4_code 7 none : Cond) ∈ lw_tbl := List.mem_append_right _ (List.mem_append_right _ (List.mem_append_right _ (List.mem_append_left _ (List.mem_of_getElem? (i := 129) rfl))))
set_option maxRecDepth 100000 in
theorem tb_cwi53 : (.code ⟨"LoadRoom$Search", "layFloors", "(I)V"⟩ prog_10_method_5_code 3 none : Cond) ∈ lw_tbl := List.mem_append_right _ (List.mem_append_right _ (List.mem_append_right _ (List.mem_append_left _ (List.mem_of_getElem? (i := 133) rfl))))
set_option maxRecDepth 100000 in
theorem tb_cwi54 : (.code ⟨"LoadRoom$Floor", "lay", "(LLoadRoom$Box;)V"⟩ prog_6_method_2_code 2 none : Cond) ∈ lw_tbl := List.mem_append_right _ (List.mem_append_right _ (List.mem_append_right _ (List.mem_append_left _ (List.mem_of_getElem? (i := 137) rfl))))
set_option maxRecDepth 100000 in
theorem tb_cwi55 : (.code ⟨"LoadRoom$Ends", "count", "(I)I"⟩ prog_5_method_2_code 2 (Option.some FieldType.int) : Cond) ∈ lw_tbl := List.mem_append_right _ (List.mem_append_right _ (List.mem_append_right _ (List.mem_append_left _ (List.mem_of_getElem? (i := 141) rfl))))
set_option maxRecDepth 100000 in
theorem tb_cwi56 : (.code ⟨"LoadRoom$Ends", "get", "(II)I"⟩ prog_5_method_3_code 3 (Option.some FieldType.int) : Cond) ∈ lw_tbl := List.mem_append_right _ (List.mem_append_right _ (List.mem_append_right _ (List.mem_append_left _ (List.mem_of_getElem? (i := 145) rfl))))
set_option maxRecDepth 100000 in
theorem tb_cwi57 : (.code ⟨"LoadRoom$Floor", "lay", "(ILLoadRoom$Row;)V"⟩ prog_6_method_3_code 4 none : Cond) ∈ lw_tbl := List.mem_append_right _ (List.mem_append_right _ (List.mem_append_right _ (List.mem_append_left _ (List.mem_of_getElem? (i := 150) rfl))))
set_option maxRecDepth 100000 in
theorem tb_cwi58 : (.code ⟨"LoadRoom$Floor", "widen", "(LLoadRoom$Placed;)V"⟩ prog_6_method_4_code 3 none : Cond) ∈ lw_tbl := List.mem_append_right _ (List.mem_append_right _ (List.mem_append_right _ (List.mem_append_left _ (List.mem_of_getElem? (i := 154) rfl))))
set_option maxRecDepth 100000 in
theorem tb_cwi59 : (.code ⟨"LoadRoom$Row", "find", "(I)LLoadRoom$Placed;"⟩ prog_9_method_4_code 3 (Option.some (FieldType.object "LoadRoom$Placed")) : Cond) ∈ lw_tbl := List.mem_append_right _ (List.mem_append_right _ (List.mem_append_right _ (List.mem_append_left _ (List.mem_of_getElem? (i := 160) rfl))))
set_option maxRecDepth 100000 in
theorem tb_cwi60 : (.code ⟨"LoadRoom$Placed", "take", "(ILLoadRoom$Piece;I)V"⟩ prog_8_method_2_code 4 none : Cond) ∈ lw_tbl := List.mem_append_right _ (List.mem_append_right _ (List.mem_append_right _ (List.mem_append_left _ (List.mem_of_getElem? (i := 164) rfl))))
set_option maxRecDepth 100000 in
theorem tb_cwi61 : (.code ⟨"LoadRoom$Search", "tryFloors", "(LLoadRoom$Placed;)V"⟩ prog_10_method_6_code 5 none : Cond) ∈ lw_tbl := List.mem_append_right _ (List.mem_append_right _ (List.mem_append_right _ (List.mem_append_left _ (List.mem_of_getElem? (i := 171) rfl))))
set_option maxRecDepth 100000 in
theorem tb_cwi62 : (.code ⟨"LoadRoom$Placed", "moveToY", "(I)V"⟩ prog_8_method_5_code 2 none : Cond) ∈ lw_tbl := List.mem_append_right _ (List.mem_append_right _ (List.mem_append_right _ (List.mem_append_left _ (List.mem_of_getElem? (i := 175) rfl))))
set_option maxRecDepth 100000 in
theorem tb_cwi63 : (.code ⟨"LoadRoom$Row", "leastHeight", "()I"⟩ prog_9_method_6_code 1 (Option.some FieldType.int) : Cond) ∈ lw_tbl := List.mem_append_right _ (List.mem_append_right _ (List.mem_append_right _ (List.mem_append_left _ (List.mem_of_getElem? (i := 179) rfl))))
set_option maxRecDepth 100000 in
theorem tb_cwi64 : (.code ⟨"LoadRoom$Search", "tryPlaces", "(LLoadRoom$Placed;LLoadRoom$Floor;)V"⟩ prog_10_method_7_code 7 none : Cond) ∈ lw_tbl := List.mem_append_right _ (List.mem_append_right _ (List.mem_append_right _ (List.mem_append_left _ (List.mem_of_getElem? (i := 183) rfl))))
set_option maxRecDepth 100000 in
theorem tb_cwi65 : (.code ⟨"LoadRoom$Row", "leastDepth", "(I)I"⟩ prog_9_method_7_code 2 (Option.some FieldType.int) : Cond) ∈ lw_tbl := List.mem_append_right _ (List.mem_append_right _ (List.mem_append_right _ (List.mem_append_left _ (List.mem_of_getElem? (i := 187) rfl))))
set_option maxRecDepth 100000 in
theorem tb_cwi66 : (.code ⟨"LoadRoom$Placed", "moveToZ", "(I)V"⟩ prog_8_method_6_code 2 none : Cond) ∈ lw_tbl := List.mem_append_right _ (List.mem_append_right _ (List.mem_append_right _ (List.mem_append_left _ (List.mem_of_getElem? (i := 192) rfl))))
set_option maxRecDepth 100000 in
theorem tb_cwi67 : (.code ⟨"LoadRoom$Placed", "moveToX", "(I)V"⟩ prog_8_method_4_code 2 none : Cond) ∈ lw_tbl := List.mem_append_right _ (List.mem_append_right _ (List.mem_append_right _ (List.mem_append_left _ (List.mem_of_getElem? (i := 196) rfl))))
set_option maxRecDepth 100000 in
theorem tb_cwi68 : (.code ⟨"LoadRoom$Row", "admits", "(LLoadRoom$Placed;)Z"⟩ prog_9_method_8_code 2 (Option.some FieldType.boolean) : Cond) ∈ lw_tbl := List.mem_append_right _ (List.mem_append_right _ (List.mem_append_right _ (List.mem_append_left _ (List.mem_of_getElem? (i := 200) rfl))))
set_option maxRecDepth 100000 in
theorem tb_cwi69 : (.code ⟨"LoadRoom$Row", "isRising", "(LLoadRoom$Placed;)Z"⟩ prog_9_method_9_code 2 (Option.some FieldType.boolean) : Cond) ∈ lw_tbl := List.mem_append_right _ (List.mem_append_right _ (List.mem_append_right _ (List.mem_append_left _ (List.mem_of_getElem? (i := 204) rfl))))
set_option maxRecDepth 100000 in
theorem tb_cwi70 : (.code ⟨"LoadRoom$Placed", "isPast", "(LLoadRoom$Placed;)Z"⟩ prog_8_method_7_code 2 (Option.some FieldType.boolean) : Cond) ∈ lw_tbl := List.mem_append_right _ (List.mem_append_right _ (List.mem_append_right _ (List.mem_append_left _ (List.mem_of_getElem? (i := 208) rfl))))
set_option maxRecDepth 100000 in
theorem tb_cwi71 : (.code ⟨"LoadRoom$Row", "letsStand", "(LLoadRoom$Placed;)Z"⟩ prog_9_method_11_code 4 (Option.some FieldType.boolean) : Cond) ∈ lw_tbl := List.mem_append_right _ (List.mem_append_right _ (List.mem_append_right _ (List.mem_append_left _ (List.mem_of_getElem? (i := 212) rfl))))
set_option maxRecDepth 100000 in
theorem tb_cwi72 : (.code ⟨"LoadRoom$Placed", "restsOn", "(LLoadRoom$Placed;)I"⟩ prog_8_method_11_code 4 (Option.some FieldType.int) : Cond) ∈ lw_tbl := List.mem_append_right _ (List.mem_append_right _ (List.mem_append_right _ (List.mem_append_left _ (List.mem_of_getElem? (i := 216) rfl))))
set_option maxRecDepth 100000 in
theorem tb_cwi73 : (.code ⟨"LoadRoom$Row", "hasRoom", "(LLoadRoom$Placed;)Z"⟩ prog_9_method_10_code 3 (Option.some FieldType.boolean) : Cond) ∈ lw_tbl := List.mem_append_right _ (List.mem_append_right _ (List.mem_append_right _ (List.mem_append_left _ (List.mem_of_getElem? (i := 222) rfl))))
set_option maxRecDepth 100000 in
theorem tb_cwi74 : (.code ⟨"LoadRoom$Placed", "sharesRoom", "(LLoadRoom$Placed;)Z"⟩ prog_8_method_8_code 2 (Option.some FieldType.boolean) : Cond) ∈ lw_tbl := List.mem_append_right _ (List.mem_append_right _ (List.mem_append_right _ (List.mem_append_left _ (List.mem_of_getElem? (i := 226) rfl))))
set_option maxRecDepth 100000 in
theorem tb_cwi75 : (.code ⟨"LoadRoom$Row", "carries", "(LLoadRoom$Placed;)Z"⟩ prog_9_method_12_code 4 (Option.some FieldType.boolean) : Cond) ∈ lw_tbl := List.mem_append_right _ (List.mem_append_right _ (List.mem_append_right _ (List.mem_append_left _ (List.mem_of_getElem? (i := 230) rfl))))
set_option maxRecDepth 100000 in
theorem tb_cwi76 : (.code ⟨"LoadRoom$Placed", "isOver", "(LLoadRoom$Placed;)Z"⟩ prog_8_method_9_code 2 (Option.some FieldType.boolean) : Cond) ∈ lw_tbl := List.mem_append_right _ (List.mem_append_right _ (List.mem_append_right _ (List.mem_append_left _ (List.mem_of_getElem? (i := 234) rfl))))
set_option maxRecDepth 100000 in
theorem tb_cwi77 : (.code ⟨"LoadRoom$Row", "letsOut", "(LLoadRoom$Placed;)Z"⟩ prog_9_method_13_code 3 (Option.some FieldType.boolean) : Cond) ∈ lw_tbl := List.mem_append_right _ (List.mem_append_right _ (List.mem_append_right _ (List.mem_append_left _ (List.mem_of_getElem? (i := 238) rfl))))
set_option maxRecDepth 100000 in
theorem tb_cwi78 : (.code ⟨"LoadRoom$Placed", "shutsIn", "(LLoadRoom$Placed;)Z"⟩ prog_8_method_10_code 2 (Option.some FieldType.boolean) : Cond) ∈ lw_tbl := List.mem_append_right _ (List.mem_append_right _ (List.mem_append_right _ (List.mem_append_right _ (List.mem_append_left _ (List.mem_of_getElem? (i := 2) rfl)))))
set_option maxRecDepth 100000 in
theorem tb_cwi79 : (.code ⟨"LoadRoom$Search", "meet", "(LLoadRoom$Placed;)V"⟩ prog_10_method_8_code 2 none : Cond) ∈ lw_tbl := List.mem_append_right _ (List.mem_append_right _ (List.mem_append_right _ (List.mem_append_right _ (List.mem_append_left _ (List.mem_of_getElem? (i := 6) rfl)))))
set_option maxRecDepth 100000 in
theorem tb_cwi80 : (.code ⟨"LoadRoom$Row", "lengthen", "()V"⟩ prog_9_method_14_code 1 none : Cond) ∈ lw_tbl := List.mem_append_right _ (List.mem_append_right _ (List.mem_append_right _ (List.mem_append_right _ (List.mem_append_left _ (List.mem_of_getElem? (i := 10) rfl)))))
set_option maxRecDepth 100000 in
theorem tb_cwi81 : (.code ⟨"LoadRoom$Row", "reckon", "(LLoadRoom$Placed;I)V"⟩ prog_9_method_16_code 4 none : Cond) ∈ lw_tbl := List.mem_append_right _ (List.mem_append_right _ (List.mem_append_right _ (List.mem_append_right _ (List.mem_append_left _ (List.mem_of_getElem? (i := 14) rfl)))))
set_option maxRecDepth 100000 in
theorem tb_cwi82 : (.code ⟨"LoadRoom$Ends", "grow", "(II)V"⟩ prog_5_method_4_code 9 none : Cond) ∈ lw_tbl := List.mem_append_right _ (List.mem_append_right _ (List.mem_append_right _ (List.mem_append_right _ (List.mem_append_left _ (List.mem_of_getElem? (i := 18) rfl)))))
set_option maxRecDepth 100000 in
theorem tb_cwi83 : (.code ⟨"LoadRoom$Row", "isBetterThan", "(LLoadRoom$Row;)Z"⟩ prog_9_method_5_code 2 (Option.some FieldType.boolean) : Cond) ∈ lw_tbl := List.mem_append_right _ (List.mem_append_right _ (List.mem_append_right _ (List.mem_append_right _ (List.mem_append_left _ (List.mem_of_getElem? (i := 23) rfl)))))
set_option maxRecDepth 100000 in
theorem tb_cwi84 : (.code ⟨"LoadRoom$Row", "copy", "(LLoadRoom$Row;)V"⟩ prog_9_method_3_code 3 none : Cond) ∈ lw_tbl := List.mem_append_right _ (List.mem_append_right _ (List.mem_append_right _ (List.mem_append_right _ (List.mem_append_left _ (List.mem_of_getElem? (i := 27) rfl)))))
set_option maxRecDepth 100000 in
theorem tb_cwi85 : (.code ⟨"LoadRoom$Placed", "copy", "(LLoadRoom$Placed;)V"⟩ prog_8_method_3_code 2 none : Cond) ∈ lw_tbl := List.mem_append_right _ (List.mem_append_right _ (List.mem_append_right _ (List.mem_append_right _ (List.mem_append_left _ (List.mem_of_getElem? (i := 31) rfl)))))
set_option maxRecDepth 100000 in
theorem tb_cwi86 : (.code ⟨"LoadRoom$Row", "shorten", "()V"⟩ prog_9_method_15_code 1 none : Cond) ∈ lw_tbl := List.mem_append_right _ (List.mem_append_right _ (List.mem_append_right _ (List.mem_append_right _ (List.mem_append_left _ (List.mem_of_getElem? (i := 36) rfl)))))
set_option maxRecDepth 100000 in
theorem tb_cwi87 : (.codeWith ⟨"LoadRoomLaw", "at", "(LLoadRoom;II[J)I"⟩ method_9_code 5 (Option.some FieldType.int) [(0, 10, 13, 21), (0, 10, 17, 13)] : Cond) ∈ lw_tbl := List.mem_append_right _ (List.mem_append_right _ (List.mem_append_right _ (List.mem_append_right _ (List.mem_append_left _ (List.mem_of_getElem? (i := 39) rfl)))))
set_option maxRecDepth 100000 in
theorem tb_cwi88 : (.code ⟨"LoadRoom", "at", "(II)I"⟩ prog_1_method_11_code 4 (Option.some FieldType.int) : Cond) ∈ lw_tbl := List.mem_append_right _ (List.mem_append_right _ (List.mem_append_right _ (List.mem_append_right _ (List.mem_append_left _ (List.mem_of_getElem? (i := 43) rfl)))))
set_option maxRecDepth 100000 in
theorem tb_cwi89 : (.code ⟨"LoadRoom$Placed", "tell", "(I)I"⟩ prog_8_method_12_code 2 (Option.some FieldType.int) : Cond) ∈ lw_tbl := List.mem_append_right _ (List.mem_append_right _ (List.mem_append_right _ (List.mem_append_right _ (List.mem_append_left _ (List.mem_of_getElem? (i := 50) rfl)))))
set_option maxRecDepth 100000 in
theorem tb_cwi90 : (.codeWith ⟨"LoadRoomLaw", "touch", "(LLoadRoom;II[J)I"⟩ method_10_code 5 (Option.some FieldType.int) [(0, 10, 13, 21)] : Cond) ∈ lw_tbl := List.mem_append_right _ (List.mem_append_right _ (List.mem_append_right _ (List.mem_append_right _ (List.mem_append_left _ (List.mem_of_getElem? (i := 53) rfl)))))
set_option maxRecDepth 100000 in
theorem tb_cwi91 : (.code ⟨"LoadRoom", "touch", "(II)I"⟩ prog_1_method_13_code 5 (Option.some FieldType.int) : Cond) ∈ lw_tbl := List.mem_append_right _ (List.mem_append_right _ (List.mem_append_right _ (List.mem_append_right _ (List.mem_append_left _ (List.mem_of_getElem? (i := 57) rfl)))))
set_option maxRecDepth 100000 in
theorem tb_cwi92 : (.codeWith ⟨"LoadRoomLaw", "axle", "(LLoadRoom;I[J)I"⟩ method_11_code 4 (Option.some FieldType.int) [(0, 9, 12, 13), (0, 9, 15, 15)] : Cond) ∈ lw_tbl := List.mem_append_right _ (List.mem_append_right _ (List.mem_append_right _ (List.mem_append_right _ (List.mem_append_left _ (List.mem_of_getElem? (i := 61) rfl)))))
set_option maxRecDepth 100000 in
theorem tb_cwi93 : (.code ⟨"LoadRoom", "axle", "(I)I"⟩ prog_1_method_14_code 2 (Option.some FieldType.int) : Cond) ∈ lw_tbl := List.mem_append_right _ (List.mem_append_right _ (List.mem_append_right _ (List.mem_append_right _ (List.mem_append_left _ (List.mem_of_getElem? (i := 65) rfl)))))
set_option maxRecDepth 100000 in
theorem tb_cwi94 : (.code ⟨"LoadRoom$Axles", "lastPlace", "()I"⟩ prog_2_method_4_code 1 (Option.some FieldType.int) : Cond) ∈ lw_tbl := List.mem_append_right _ (List.mem_append_right _ (List.mem_append_right _ (List.mem_append_right _ (List.mem_append_left _ (List.mem_of_getElem? (i := 70) rfl)))))
set_option maxRecDepth 100000 in
theorem tb_cwi95 : (.code ⟨"LoadRoom$Axles", "isFull", "()Z"⟩ prog_2_method_2_code 1 (Option.some FieldType.boolean) : Cond) ∈ lw_tbl := List.mem_append_right _ (List.mem_append_right _ (List.mem_append_right _ (List.mem_append_right _ (List.mem_append_left _ (List.mem_of_getElem? (i := 75) rfl)))))
set_option maxRecDepth 100000 in
theorem tb_cwi96 : (.code ⟨"LoadRoom$Axles", "add", "(I)I"⟩ prog_2_method_5_code 2 (Option.some FieldType.int) : Cond) ∈ lw_tbl := List.mem_append_right _ (List.mem_append_right _ (List.mem_append_right _ (List.mem_append_right _ (List.mem_append_left _ (List.mem_of_getElem? (i := 80) rfl)))))
set_option maxRecDepth 100000 in
theorem tb_cwi97 : (.codeWith ⟨"LoadRoomLaw", "load", "(LLoadRoom;II[J)I"⟩ method_12_code 5 (Option.some FieldType.int) [(0, 9, 12, 49), (0, 9, 16, 21), (0, 9, 20, 13)] : Cond) ∈ lw_tbl := List.mem_append_right _ (List.mem_append_right _ (List.mem_append_right _ (List.mem_append_right _ (List.mem_append_left _ (List.mem_of_getElem? (i := 84) rfl)))))
set_option maxRecDepth 100000 in
theorem tb_cwi98 : (.code ⟨"LoadRoom", "load", "(II)J"⟩ prog_1_method_15_code 3 (Option.some FieldType.long) : Cond) ∈ lw_tbl := List.mem_append_right _ (List.mem_append_right _ (List.mem_append_right _ (List.mem_append_right _ (List.mem_append_left _ (List.mem_of_getElem? (i := 89) rfl)))))
set_option maxRecDepth 100000 in
theorem tb_cwi99 : (.code ⟨"LoadRoom$Axles", "has", "(I)Z"⟩ prog_2_method_3_code 2 (Option.some FieldType.boolean) : Cond) ∈ lw_tbl := List.mem_append_right _ (List.mem_append_right _ (List.mem_append_right _ (List.mem_append_right _ (List.mem_append_left _ (List.mem_of_getElem? (i := 109) rfl)))))
set_option maxRecDepth 100000 in
theorem tb_cwi100 : (.code ⟨"LoadRoom$Axles", "share", "(IILLoadRoom$Row;)J"⟩ prog_2_method_6_code 10 (Option.some FieldType.long) : Cond) ∈ lw_tbl := List.mem_append_right _ (List.mem_append_right _ (List.mem_append_right _ (List.mem_append_right _ (List.mem_append_left _ (List.mem_of_getElem? (i := 117) rfl)))))
set_option maxRecDepth 100000 in
theorem tb_cwi101 : (.code ⟨"LoadRoom$Axles", "gap", "(I)I"⟩ prog_2_method_7_code 2 (Option.some FieldType.int) : Cond) ∈ lw_tbl := List.mem_append_right _ (List.mem_append_right _ (List.mem_append_right _ (List.mem_append_right _ (List.mem_append_left _ (List.mem_of_getElem? (i := 121) rfl)))))
set_option maxRecDepth 100000 in
theorem tb_cwi102 : (.code ⟨"LoadRoom$Axles", "sumFromBefore", "(ILLoadRoom$Row;)J"⟩ prog_2_method_9_code 8 (Option.some FieldType.long) : Cond) ∈ lw_tbl := List.mem_append_right _ (List.mem_append_right _ (List.mem_append_right _ (List.mem_append_right _ (List.mem_append_left _ (List.mem_of_getElem? (i := 126) rfl)))))
set_option maxRecDepth 100000 in
theorem tb_cwi103 : (.code ⟨"LoadRoom$Axles", "firstOfTwo", "(I)I"⟩ prog_2_method_8_code 4 (Option.some FieldType.int) : Cond) ∈ lw_tbl := List.mem_append_right _ (List.mem_append_right _ (List.mem_append_right _ (List.mem_append_right _ (List.mem_append_left _ (List.mem_of_getElem? (i := 130) rfl)))))
set_option maxRecDepth 100000 in
theorem tb_cwi104 : (.code ⟨"LoadRoom$Axles", "sumFromBehind", "(ILLoadRoom$Row;)J"⟩ prog_2_method_10_code 8 (Option.some FieldType.long) : Cond) ∈ lw_tbl := List.mem_append_right _ (List.mem_append_right _ (List.mem_append_right _ (List.mem_append_right _ (List.mem_append_left _ (List.mem_of_getElem? (i := 134) rfl)))))
set_option maxRecDepth 100000 in
theorem tb_cwi105 : (.code ⟨"LoadRoom$Axles", "inLowestTerms", "(JJI)J"⟩ prog_2_method_11_code 9 (Option.some FieldType.long) : Cond) ∈ lw_tbl := List.mem_append_right _ (List.mem_append_right _ (List.mem_append_right _ (List.mem_append_right _ (List.mem_append_left _ (List.mem_of_getElem? (i := 137) rfl)))))
set_option maxRecDepth 100000 in
theorem tb_cwi106 : (.code ⟨"java/lang/Math", "abs", "(J)J"⟩ prog_18_method_61_code 2 (Option.some FieldType.long) : Cond) ∈ lw_tbl := List.mem_append_right _ (List.mem_append_right _ (List.mem_append_right _ (List.mem_append_right _ (List.mem_append_left _ (List.mem_of_getElem? (i := 140) rfl)))))
set_option maxRecDepth 100000 in
theorem tb_cwi107 : (.code ⟨"LoadRoom$Axles", "commonDivisor", "(JJ)J"⟩ prog_2_method_12_code 11 (Option.some FieldType.long) : Cond) ∈ lw_tbl := List.mem_append_right _ (List.mem_append_right _ (List.mem_append_right _ (List.mem_append_right _ (List.mem_append_left _ (List.mem_of_getElem? (i := 143) rfl)))))
set_option maxRecDepth 100000 in
theorem tb_cwi108 : (.code ⟨"LoadRoomModel", "<init>", "(III)V"⟩ prog_12_method_1_code 4 none : Cond) ∈ lw_tbl := List.mem_append_right _ (List.mem_append_right _ (List.mem_append_right _ (List.mem_append_right _ (List.mem_append_left _ (List.mem_of_getElem? (i := 148) rfl)))))
set_option maxRecDepth 100000 in
theorem tb_cwi109 : (.code ⟨"LoadRoomModel", "brought", "(I)I"⟩ prog_12_method_2_code 1 (Option.some FieldType.int) : Cond) ∈ lw_tbl := List.mem_append_right _ (List.mem_append_right _ (List.mem_append_right _ (List.mem_append_right _ (List.mem_append_left _ (List.mem_of_getElem? (i := 152) rfl)))))
set_option maxRecDepth 100000 in
theorem tb_cwi110 : (.code ⟨"LoadRoomModel", "thrown", "()I"⟩ prog_12_method_3_code 1 (Option.some FieldType.int) : Cond) ∈ lw_tbl := List.mem_append_right _ (List.mem_append_right _ (List.mem_append_right _ (List.mem_append_right _ (List.mem_append_right _ (List.mem_of_getElem? (i := 19) rfl)))))
set_option maxRecDepth 100000 in
theorem tb_cwi111 : (.code ⟨"LoadRoomModel", "piece", "(IIII)I"⟩ prog_12_method_7_code 6 (Option.some FieldType.int) : Cond) ∈ lw_tbl := List.mem_append_right _ (List.mem_append_right _ (List.mem_append_right _ (List.mem_append_right _ (List.mem_append_right _ (List.mem_of_getElem? (i := 23) rfl)))))
set_option maxRecDepth 100000 in
theorem tb_cwi112 : (.code ⟨"LoadRoomModel", "within", "(III)Z"⟩ prog_12_method_4_code 3 (Option.some FieldType.boolean) : Cond) ∈ lw_tbl := List.mem_append_right _ (List.mem_append_right _ (List.mem_append_right _ (List.mem_append_right _ (List.mem_append_right _ (List.mem_of_getElem? (i := 26) rfl)))))
set_option maxRecDepth 100000 in
theorem tb_cwi113 : (.code ⟨"LoadRoomModel", "unpack", "()V"⟩ prog_12_method_6_code 1 none : Cond) ∈ lw_tbl := List.mem_append_right _ (List.mem_append_right _ (List.mem_append_right _ (List.mem_append_right _ (List.mem_append_right _ (List.mem_of_getElem? (i := 31) rfl)))))
set_option maxRecDepth 100000 in
theorem tb_cwi114 : (.code ⟨"LoadRoomModel", "turn", "(II)I"⟩ prog_12_method_8_code 4 (Option.some FieldType.int) : Cond) ∈ lw_tbl := List.mem_append_right _ (List.mem_append_right _ (List.mem_append_right _ (List.mem_append_right _ (List.mem_append_right _ (List.mem_of_getElem? (i := 35) rfl)))))
set_option maxRecDepth 100000 in
theorem tb_cwi115 : (.code ⟨"LoadRoomModel", "isPiece", "(I)Z"⟩ prog_12_method_5_code 2 (Option.some FieldType.boolean) : Cond) ∈ lw_tbl := List.mem_append_right _ (List.mem_append_right _ (List.mem_append_right _ (List.mem_append_right _ (List.mem_append_right _ (List.mem_of_getElem? (i := 39) rfl)))))
set_option maxRecDepth 100000 in
theorem tb_cwi116 : (.code ⟨"LoadRoomModel", "order", "(II)I"⟩ prog_12_method_9_code 4 (Option.some FieldType.int) : Cond) ∈ lw_tbl := List.mem_append_right _ (List.mem_append_right _ (List.mem_append_right _ (List.mem_append_right _ (List.mem_append_right _ (List.mem_of_getElem? (i := 43) rfl)))))
set_option maxRecDepth 100000 in
theorem tb_cwi117 : (.code ⟨"LoadRoomModel", "limit", "(II)I"⟩ prog_12_method_10_code 4 (Option.some FieldType.int) : Cond) ∈ lw_tbl := List.mem_append_right _ (List.mem_append_right _ (List.mem_append_right _ (List.mem_append_right _ (List.mem_append_right _ (List.mem_of_getElem? (i := 47) rfl)))))
set_option maxRecDepth 100000 in
theorem tb_cwi118 : (.code ⟨"LoadRoomModel", "fits", "(I)I"⟩ prog_12_method_16_code 2 (Option.some FieldType.int) : Cond) ∈ lw_tbl := List.mem_append_right _ (List.mem_append_right _ (List.mem_append_right _ (List.mem_append_right _ (List.mem_append_right _ (List.mem_of_getElem? (i := 51) rfl)))))
set_option maxRecDepth 100000 in
theorem tb_cwi119 : (.code ⟨"LoadRoomModel", "fitting", "(I)I"⟩ prog_12_method_15_code 4 (Option.some FieldType.int) : Cond) ∈ lw_tbl := List.mem_append_right _ (List.mem_append_right _ (List.mem_append_right _ (List.mem_append_right _ (List.mem_append_right _ (List.mem_of_getElem? (i := 55) rfl)))))
set_option maxRecDepth 100000 in
theorem tb_cwi120 : (.code ⟨"LoadRoomModel", "turnFits", "(II)Z"⟩ prog_12_method_14_code 5 (Option.some FieldType.boolean) : Cond) ∈ lw_tbl := List.mem_append_right _ (List.mem_append_right _ (List.mem_append_right _ (List.mem_append_right _ (List.mem_append_right _ (List.mem_of_getElem? (i := 59) rfl)))))
set_option maxRecDepth 100000 in
theorem tb_cwi121 : (.code ⟨"LoadRoomModel", "isAllowed", "(II)Z"⟩ prog_12_method_12_code 3 (Option.some FieldType.boolean) : Cond) ∈ lw_tbl := List.mem_append_right _ (List.mem_append_right _ (List.mem_append_right _ (List.mem_append_right _ (List.mem_append_right _ (List.mem_of_getElem? (i := 63) rfl)))))
set_option maxRecDepth 100000 in
theorem tb_cwi122 : (.code ⟨"LoadRoomModel", "isLike", "(III)Z"⟩ prog_12_method_13_code 6 (Option.some FieldType.boolean) : Cond) ∈ lw_tbl := List.mem_append_right _ (List.mem_append_right _ (List.mem_append_right _ (List.mem_append_right _ (List.mem_append_right _ (List.mem_of_getElem? (i := 67) rfl)))))
set_option maxRecDepth 100000 in
theorem tb_cwi123 : (.code ⟨"LoadRoomModel", "axisOf", "(II)I"⟩ prog_12_method_11_code 2 (Option.some FieldType.int) : Cond) ∈ lw_tbl := List.mem_append_right _ (List.mem_append_right _ (List.mem_append_right _ (List.mem_append_right _ (List.mem_append_right _ (List.mem_of_getElem? (i := 70) rfl)))))
set_option maxRecDepth 100000 in
theorem tb_cwi124 : (.code ⟨"LoadRoomModel", "bound", "()I"⟩ prog_12_method_18_code 3 (Option.some FieldType.int) : Cond) ∈ lw_tbl := List.mem_append_right _ (List.mem_append_right _ (List.mem_append_right _ (List.mem_append_right _ (List.mem_append_right _ (List.mem_of_getElem? (i := 74) rfl)))))
set_option maxRecDepth 100000 in
theorem tb_cwi125 : (.code ⟨"LoadRoomModel", "volume", "(I)I"⟩ prog_12_method_17_code 2 (Option.some FieldType.int) : Cond) ∈ lw_tbl := List.mem_append_right _ (List.mem_append_right _ (List.mem_append_right _ (List.mem_append_right _ (List.mem_append_right _ (List.mem_of_getElem? (i := 78) rfl)))))
set_option maxRecDepth 100000 in
theorem tb_cwi126 : (.code ⟨"LoadRoomModel", "pack", "(I)I"⟩ prog_12_method_30_code 4 (Option.some FieldType.int) : Cond) ∈ lw_tbl := List.mem_append_right _ (List.mem_append_right _ (List.mem_append_right _ (List.mem_append_right _ (List.mem_append_right _ (List.mem_of_getElem? (i := 82) rfl)))))
set_option maxRecDepth 100000 in
theorem tb_cwi127 : (.code ⟨"LoadRoomModel", "open", "()V"⟩ prog_12_method_19_code 8 none : Cond) ∈ lw_tbl := List.mem_append_right _ (List.mem_append_right _ (List.mem_append_right _ (List.mem_append_right _ (List.mem_append_right _ (List.mem_of_getElem? (i := 86) rfl)))))
set_option maxRecDepth 100000 in
theorem tb_cwi128 : (.code ⟨"LoadRoomModel", "findNext", "()Z"⟩ prog_12_method_29_code 7 (Option.some FieldType.boolean) : Cond) ∈ lw_tbl := List.mem_append_right _ (List.mem_append_right _ (List.mem_append_right _ (List.mem_append_right _ (List.mem_append_right _ (List.mem_of_getElem? (i := 90) rfl)))))
set_option maxRecDepth 100000 in
theorem tb_cwi129 : (.code ⟨"LoadRoomModel", "cornerX", "(I)I"⟩ prog_12_method_26_code 2 (Option.some FieldType.int) : Cond) ∈ lw_tbl := List.mem_append_right _ (List.mem_append_right _ (List.mem_append_right _ (List.mem_append_right _ (List.mem_append_right _ (List.mem_of_getElem? (i := 94) rfl)))))
set_option maxRecDepth 100000 in
theorem tb_cwi130 : (.code ⟨"LoadRoomModel", "cornerY", "(I)I"⟩ prog_12_method_28_code 2 (Option.some FieldType.int) : Cond) ∈ lw_tbl := List.mem_append_right _ (List.mem_append_right _ (List.mem_append_right _ (List.mem_append_right _ (List.mem_append_right _ (List.mem_of_getElem? (i := 98) rfl)))))
set_option maxRecDepth 100000 in
theorem tb_cwi131 : (.code ⟨"LoadRoomModel", "cornerZ", "(I)I"⟩ prog_12_method_27_code 2 (Option.some FieldType.int) : Cond) ∈ lw_tbl := List.mem_append_right _ (List.mem_append_right _ (List.mem_append_right _ (List.mem_append_right _ (List.mem_append_right _ (List.mem_of_getElem? (i := 102) rfl)))))
set_option maxRecDepth 100000 in
theorem tb_cwi132 : (.code ⟨"LoadRoomModel", "mayCome", "(IIII)Z"⟩ prog_12_method_22_code 15 (Option.some FieldType.boolean) : Cond) ∈ lw_tbl := List.mem_append_right _ (List.mem_append_right _ (List.mem_append_right _ (List.mem_append_right _ (List.mem_append_right _ (List.mem_of_getElem? (i := 106) rfl)))))
set_option maxRecDepth 100000 in
theorem tb_cwi133 : (.code ⟨"LoadRoomModel", "rises", "(III)Z"⟩ prog_12_method_21_code 5 (Option.some FieldType.boolean) : Cond) ∈ lw_tbl := List.mem_append_right _ (List.mem_append_right _ (List.mem_append_right _ (List.mem_append_right _ (List.mem_append_right _ (List.mem_of_getElem? (i := 110) rfl)))))
set_option maxRecDepth 100000 in
theorem tb_cwi134 : (.code ⟨"LoadRoomModel", "common", "(IIII)I"⟩ prog_12_method_20_code 9 (Option.some FieldType.int) : Cond) ∈ lw_tbl := List.mem_append_right _ (List.mem_append_right _ (List.mem_append_right _ (List.mem_append_right _ (List.mem_append_right _ (List.mem_of_getElem? (i := 114) rfl)))))
set_option maxRecDepth 100000 in
theorem tb_cwi135 : (.code ⟨"LoadRoomModel", "come", "(IIIII)V"⟩ prog_12_method_23_code 8 none : Cond) ∈ lw_tbl := List.mem_append_right _ (List.mem_append_right _ (List.mem_append_right _ (List.mem_append_right _ (List.mem_append_right _ (List.mem_of_getElem? (i := 118) rfl)))))
set_option maxRecDepth 100000 in
theorem tb_cwi136 : (.code ⟨"LoadRoomModel", "compare", "()V"⟩ prog_12_method_25_code 6 none : Cond) ∈ lw_tbl := List.mem_append_right _ (List.mem_append_right _ (List.mem_append_right _ (List.mem_append_right _ (List.mem_append_right _ (List.mem_of_getElem? (i := 122) rfl)))))
set_option maxRecDepth 100000 in
theorem tb_cwi137 : (.code ⟨"LoadRoomModel", "leave", "()V"⟩ prog_12_method_24_code 4 none : Cond) ∈ lw_tbl := List.mem_append_right _ (List.mem_append_right _ (List.mem_append_right _ (List.mem_append_right _ (List.mem_append_right _ (List.mem_of_getElem? (i := 126) rfl)))))
set_option maxRecDepth 100000 in
theorem tb_cwi138 : (.code ⟨"LoadRoomModel", "exact", "()Z"⟩ prog_12_method_31_code 1 (Option.some FieldType.boolean) : Cond) ∈ lw_tbl := List.mem_append_right _ (List.mem_append_right _ (List.mem_append_right _ (List.mem_append_right _ (List.mem_append_right _ (List.mem_of_getElem? (i := 130) rfl)))))
set_option maxRecDepth 100000 in
theorem tb_cwi139 : (.code ⟨"LoadRoomModel", "steps", "()I"⟩ prog_12_method_32_code 1 (Option.some FieldType.int) : Cond) ∈ lw_tbl := List.mem_append_right _ (List.mem_append_right _ (List.mem_append_right _ (List.mem_append_right _ (List.mem_append_right _ (List.mem_of_getElem? (i := 134) rfl)))))
set_option maxRecDepth 100000 in
theorem tb_cwi140 : (.code ⟨"LoadRoomModel", "at", "(II)I"⟩ prog_12_method_34_code 4 (Option.some FieldType.int) : Cond) ∈ lw_tbl := List.mem_append_right _ (List.mem_append_right _ (List.mem_append_right _ (List.mem_append_right _ (List.mem_append_right _ (List.mem_of_getElem? (i := 138) rfl)))))
set_option maxRecDepth 100000 in
theorem tb_cwi141 : (.code ⟨"LoadRoomModel", "placeOf", "(I)I"⟩ prog_12_method_33_code 3 (Option.some FieldType.int) : Cond) ∈ lw_tbl := List.mem_append_right _ (List.mem_append_right _ (List.mem_append_right _ (List.mem_append_right _ (List.mem_append_right _ (List.mem_of_getElem? (i := 142) rfl)))))
set_option maxRecDepth 100000 in
theorem tb_cwi142 : (.code ⟨"LoadRoomModel", "moment", "()J"⟩ prog_12_method_35_code 1 (Option.some FieldType.long) : Cond) ∈ lw_tbl := List.mem_append_right _ (List.mem_append_right _ (List.mem_append_right _ (List.mem_append_right _ (List.mem_append_right _ (List.mem_of_getElem? (i := 146) rfl)))))
set_option maxRecDepth 100000 in
theorem tb_cwi143 : (.code ⟨"LoadRoomModel", "touch", "(II)I"⟩ prog_12_method_37_code 6 (Option.some FieldType.int) : Cond) ∈ lw_tbl := List.mem_append_right _ (List.mem_append_right _ (List.mem_append_right _ (List.mem_append_right _ (List.mem_append_right _ (List.mem_of_getElem? (i := 150) rfl)))))
set_option maxRecDepth 100000 in
theorem tb_cwi144 : (.code ⟨"LoadRoomModel", "overlap", "(IIII)I"⟩ prog_12_method_36_code 6 (Option.some FieldType.int) : Cond) ∈ lw_tbl := List.mem_append_right _ (List.mem_append_right _ (List.mem_append_right _ (List.mem_append_right _ (List.mem_append_right _ (List.mem_of_getElem? (i := 153) rfl)))))
set_option maxRecDepth 100000 in
theorem tb_cwi145 : (.code ⟨"LoadRoomModel", "axle", "(I)I"⟩ prog_12_method_38_code 3 (Option.some FieldType.int) : Cond) ∈ lw_tbl := List.mem_append_right _ (List.mem_append_right _ (List.mem_append_right _ (List.mem_append_right _ (List.mem_append_right _ (List.mem_of_getElem? (i := 157) rfl)))))
set_option maxRecDepth 100000 in
theorem tb_cwi146 : (.code ⟨"LoadRoomModel", "load", "(II)J"⟩ prog_12_method_41_code 17 (Option.some FieldType.long) : Cond) ∈ lw_tbl := List.mem_append_right _ (List.mem_append_right _ (List.mem_append_right _ (List.mem_append_right _ (List.mem_append_right _ (List.mem_of_getElem? (i := 161) rfl)))))
set_option maxRecDepth 100000 in
theorem tb_cwi147 : (.code ⟨"LoadRoomModel", "gapOf", "(I)I"⟩ prog_12_method_39_code 3 (Option.some FieldType.int) : Cond) ∈ lw_tbl := List.mem_append_right _ (List.mem_append_right _ (List.mem_append_right _ (List.mem_append_right _ (List.mem_append_right _ (List.mem_of_getElem? (i := 165) rfl)))))
set_option maxRecDepth 100000 in
theorem tb_cwi148 : (.code ⟨"LoadRoomModel", "divisor", "(JJ)J"⟩ prog_12_method_40_code 10 (Option.some FieldType.long) : Cond) ∈ lw_tbl := List.mem_append_right _ (List.mem_append_right _ (List.mem_append_right _ (List.mem_append_right _ (List.mem_append_right _ (List.mem_of_getElem? (i := 169) rfl)))))
end
section
/-! the instructions as they stand in the bytes, decided: by gen.py -/
set_option maxRecDepth 100000 in
theorem tb_okD0_0 : tb_okD 0 0 = true := by decide +kernel
set_option maxRecDepth 100000 in
theorem tb_okD0_1 : tb_okD 0 1 = true := by decide +kernel
set_option maxRecDepth 100000 in
theorem tb_okD0_2 : tb_okD 0 2 = true := by decide +kernel
set_option maxRecDepth 100000 in
theorem tb_okD0_3 : tb_okD 0 3 = true := by decide +kernel
set_option maxRecDepth 100000 in
theorem tb_okD0_4 : tb_okD 0 4 = true := by decide +kernel
set_option maxRecDepth 100000 in
theorem tb_okD0_5 : tb_okD 0 5 = true := by decide +kernel
set_option maxRecDepth 100000 in
theorem tb_okD0_6 : tb_okD 0 6 = true := by decide +kernel
set_option maxRecDepth 100000 in
theorem tb_okD0_7 : tb_okD 0 7 = true := by decide +kernel
set_option maxRecDepth 100000 in
theorem tb_okD0_8 : tb_okD 0 8 = true := by decide +kernel
set_option maxRecDepth 100000 in
theorem tb_okD0_9 : tb_okD 0 9 = true := by decide +kernel
set_option maxRecDepth 100000 in
theorem tb_okD0_10 : tb_okD 0 10 = true := by decide +kernel
set_option maxRecDepth 100000 in
theorem tb_okD0_11 : tb_okD 0 11 = true := by decide +kernel
set_option maxRecDepth 100000 in
theorem tb_okD0_12 : tb_okD 0 12 = true := by decide +kernel
set_option maxRecDepth 100000 in
theorem tb_okD0_13 : tb_okD 0 13 = true := by decide +kernel
set_option maxRecDepth 100000 in
theorem tb_okD1_0 : tb_okD 1 0 = true := by decide +kernel
set_option maxRecDepth 100000 in
theorem tb_okD1_1 : tb_okD 1 1 = true := by decide +kernel
set_option maxRecDepth 100000 in
theorem tb_okD2_0 : tb_okD 2 0 = true := by decide +kernel
set_option maxRecDepth 100000 in
theorem tb_okD3_0 : tb_okD 3 0 = true := by decide +kernel
set_option maxRecDepth 100000 in
theorem tb_okD4_0 : tb_okD 4 0 = true := by decide +kernel
set_option maxRecDepth 100000 in
theorem tb_okD5_0 : tb_okD 5 0 = true := by decide +kernel
set_option maxRecDepth 100000 in
theorem tb_okD6_0 : tb_okD 6 0 = true := by decide +kernel
set_option maxRecDepth 100000 in
theorem tb_okD7_0 : tb_okD 7 0 = true := by decide +kernel
set_option maxRecDepth 100000 in
theorem tb_okD8_0 : tb_okD 8 0 = true := by decide +kernel
set_option maxRecDepth 100000 in
theorem tb_okD8_1 : tb_okD 8 1 = true := by decide +kernel
set_option maxRecDepth 100000 in
theorem tb_okD9_0 : tb_okD 9 0 = true := by decide +kernel
set_option maxRecDepth 100000 in
theorem tb_okD10_0 : tb_okD 10 0 = true := by decide +kernel
set_option maxRecDepth 100000 in
theorem tb_okD11_0 : tb_okD 11 0 = true := by decide +kernel
set_option maxRecDepth 100000 in
theorem tb_okD12_0 : tb_okD 12 0 = true := by decide +kernel
set_option maxRecDepth 100000 in
theorem tb_okD13_0 : tb_okD 13 0 = true := by decide +kernel
set_option maxRecDepth 100000 in
theorem tb_okD14_0 : tb_okD 14 0 = true := by decide +kernel
set_option maxRecDepth 100000 in
theorem tb_okD15_0 : tb_okD 15 0 = true := by decide +kernel
set_option maxRecDepth 100000 in
theorem tb_okD16_0 : tb_okD 16 0 = true := by decide +kernel
set_option maxRecDepth 100000 in
theorem tb_okD17_0 : tb_okD 17 0 = true := by decide +kernel
set_option maxRecDepth 100000 in
theorem tb_okD18_0 : tb_okD 18 0 = true := by decide +kernel
set_option maxRecDepth 100000 in
theorem tb_okD19_0 : tb_okD 19 0 = true := by decide +kernel
set_option maxRecDepth 100000 in
theorem tb_okD20_0 : tb_okD 20 0 = true := by decide +kernel
set_option maxRecDepth 100000 in
theorem tb_okD21_0 : tb_okD 21 0 = true := by decide +kernel
set_option maxRecDepth 100000 in
theorem tb_okD22_0 : tb_okD 22 0 = true := by decide +kernel
set_option maxRecDepth 100000 in
theorem tb_okD23_0 : tb_okD 23 0 = true := by decide +kernel
set_option maxRecDepth 100000 in
theorem tb_okD23_1 : tb_okD 23 1 = true := by decide +kernel
set_option maxRecDepth 100000 in
theorem tb_okD24_0 : tb_okD 24 0 = true := by decide +kernel
set_option maxRecDepth 100000 in
theorem tb_okD25_0 : tb_okD 25 0 = true := by decide +kernel
set_option maxRecDepth 100000 in
theorem tb_okD26_0 : tb_okD 26 0 = true := by decide +kernel
set_option maxRecDepth 100000 in
theorem tb_okD27_0 : tb_okD 27 0 = true := by decide +kernel
set_option maxRecDepth 100000 in
theorem tb_okD28_0 : tb_okD 28 0 = true := by decide +kernel
set_option maxRecDepth 100000 in
theorem tb_okD29_0 : tb_okD 29 0 = true := by decide +kernel
set_option maxRecDepth 100000 in
theorem tb_okD30_0 : tb_okD 30 0 = true := by decide +kernel
set_option maxRecDepth 100000 in
theorem tb_okD31_0 : tb_okD 31 0 = true := by decide +kernel
set_option maxRecDepth 100000 in
theorem tb_okD31_1 : tb_okD 31 1 = true := by decide +kernel
set_option maxRecDepth 100000 in
theorem tb_okD32_0 : tb_okD 32 0 = true := by decide +kernel
set_option maxRecDepth 100000 in
theorem tb_okD33_0 : tb_okD 33 0 = true := by decide +kernel
set_option maxRecDepth 100000 in
theorem tb_okD34_0 : tb_okD 34 0 = true := by decide +kernel
set_option maxRecDepth 100000 in
theorem tb_okD35_0 : tb_okD 35 0 = true := by decide +kernel
set_option maxRecDepth 100000 in
theorem tb_okD36_0 : tb_okD 36 0 = true := by decide +kernel
set_option maxRecDepth 100000 in
theorem tb_okD37_0 : tb_okD 37 0 = true := by decide +kernel
set_option maxRecDepth 100000 in
theorem tb_okD38_0 : tb_okD 38 0 = true := by decide +kernel
set_option maxRecDepth 100000 in
theorem tb_okD39_0 : tb_okD 39 0 = true := by decide +kernel
set_option maxRecDepth 100000 in
theorem tb_okD40_0 : tb_okD 40 0 = true := by decide +kernel
set_option maxRecDepth 100000 in
theorem tb_okD41_0 : tb_okD 41 0 = true := by decide +kernel
set_option maxRecDepth 100000 in
theorem tb_okD42_0 : tb_okD 42 0 = true := by decide +kernel
set_option maxRecDepth 100000 in
theorem tb_okD43_0 : tb_okD 43 0 = true := by decide +kernel
set_option maxRecDepth 100000 in
theorem tb_okD44_0 : tb_okD 44 0 = true := by decide +kernel
set_option maxRecDepth 100000 in
theorem tb_okD45_0 : tb_okD 45 0 = true := by decide +kernel
set_option maxRecDepth 100000 in
theorem tb_okD46_0 : tb_okD 46 0 = true := by decide +kernel
set_option maxRecDepth 100000 in
theorem tb_okD47_0 : tb_okD 47 0 = true := by decide +kernel
set_option maxRecDepth 100000 in
theorem tb_okD48_0 : tb_okD 48 0 = true := by decide +kernel
set_option maxRecDepth 100000 in
theorem tb_okD49_0 : tb_okD 49 0 = true := by decide +kernel
set_option maxRecDepth 100000 in
theorem tb_okD50_0 : tb_okD 50 0 = true := by decide +kernel
set_option maxRecDepth 100000 in
theorem tb_okD51_0 : tb_okD 51 0 = true := by decide +kernel
set_option maxRecDepth 100000 in
theorem tb_okD52_0 : tb_okD 52 0 = true := by decide +kernel
set_option maxRecDepth 100000 in
theorem tb_okD52_1 : tb_okD 52 1 = true := by decide +kernel
set_option maxRecDepth 100000 in
theorem tb_okD52_2 : tb_okD 52 2 = true := by decide +kernel
set_option maxRecDepth 100000 in
theorem tb_okD53_0 : tb_okD 53 0 = true := by decide +kernel
set_option maxRecDepth 100000 in
theorem tb_okD54_0 : tb_okD 54 0 = true := by decide +kernel
set_option maxRecDepth 100000 in
theorem tb_okD55_0 : tb_okD 55 0 = true := by decide +kernel
set_option maxRecDepth 100000 in
theorem tb_okD56_0 : tb_okD 56 0 = true := by decide +kernel
set_option maxRecDepth 100000 in
theorem tb_okD57_0 : tb_okD 57 0 = true := by decide +kernel
set_option maxRecDepth 100000 in
theorem tb_okD58_0 : tb_okD 58 0 = true := by decide +kernel
set_option maxRecDepth 100000 in
theorem tb_okD58_1 : tb_okD 58 1 = true := by decide +kernel
set_option maxRecDepth 100000 in
theorem tb_okD58_2 : tb_okD 58 2 = true := by decide +kernel
set_option maxRecDepth 100000 in
theorem tb_okD59_0 : tb_okD 59 0 = true := by decide +kernel
set_option maxRecDepth 100000 in
theorem tb_okD60_0 : tb_okD 60 0 = true := by decide +kernel
set_option maxRecDepth 100000 in
theorem tb_okD60_1 : tb_okD 60 1 = true := by decide +kernel
set_option maxRecDepth 100000 in
theorem tb_okD61_0 : tb_okD 61 0 = true := by decide +kernel
set_option maxRecDepth 100000 in
theorem tb_okD61_1 : tb_okD 61 1 = true := by decide +kernel
set_option maxRecDepth 100000 in
theorem tb_okD62_0 : tb_okD 62 0 = true := by decide +kernel
set_option maxRecDepth 100000 in
theorem tb_okD63_0 : tb_okD 63 0 = true := by decide +kernel
set_option maxRecDepth 100000 in
theorem tb_okD64_0 : tb_okD 64 0 = true := by decide +kernel
set_option maxRecDepth 100000 in
theorem tb_okD64_1 : tb_okD 64 1 = true := by decide +kernel
set_option maxRecDepth 100000 in
theorem tb_okD64_2 : tb_okD 64 2 = true := by decide +kernel
set_option maxRecDepth 100000 in
theorem tb_okD65_0 : tb_okD 65 0 = true := by decide +kernel
set_option maxRecDepth 100000 in
theorem tb_okD66_0 : tb_okD 66 0 = true := by decide +kernel
set_option maxRecDepth 100000 in
theorem tb_okD67_0 : tb_okD 67 0 = true := by decide +kernel
set_option maxRecDepth 100000 in
theorem tb_okD68_0 : tb_okD 68 0 = true := by decide +kernel
set_option maxRecDepth 100000 in
theorem tb_okD69_0 : tb_okD 69 0 = true := by decide +kernel
set_option maxRecDepth 100000 in
theorem tb_okD70_0 : tb_okD 70 0 = true := by decide +kernel
set_option maxRecDepth 100000 in
theorem tb_okD70_1 : tb_okD 70 1 = true := by decide +kernel
set_option maxRecDepth 100000 in
theorem tb_okD71_0 : tb_okD 71 0 = true := by decide +kernel
set_option maxRecDepth 100000 in
theorem tb_okD72_0 : tb_okD 72 0 = true := by decide +kernel
set_option maxRecDepth 100000 in
theorem tb_okD72_1 : tb_okD 72 1 = true := by decide +kernel
set_option maxRecDepth 100000 in
theorem tb_okD73_0 : tb_okD 73 0 = true := by decide +kernel
set_option maxRecDepth 100000 in
theorem tb_okD74_0 : tb_okD 74 0 = true := by decide +kernel
set_option maxRecDepth 100000 in
theorem tb_okD74_1 : tb_okD 74 1 = true := by decide +kernel
set_option maxRecDepth 100000 in
theorem tb_okD75_0 : tb_okD 75 0 = true := by decide +kernel
set_option maxRecDepth 100000 in
theorem tb_okD76_0 : tb_okD 76 0 = true := by decide +kernel
set_option maxRecDepth 100000 in
theorem tb_okD77_0 : tb_okD 77 0 = true := by decide +kernel
set_option maxRecDepth 100000 in
theorem tb_okD78_0 : tb_okD 78 0 = true := by decide +kernel
set_option maxRecDepth 100000 in
theorem tb_okD78_1 : tb_okD 78 1 = true := by decide +kernel
set_option maxRecDepth 100000 in
theorem tb_okD79_0 : tb_okD 79 0 = true := by decide +kernel
set_option maxRecDepth 100000 in
theorem tb_okD79_1 : tb_okD 79 1 = true := by decide +kernel
set_option maxRecDepth 100000 in
theorem tb_okD80_0 : tb_okD 80 0 = true := by decide +kernel
set_option maxRecDepth 100000 in
theorem tb_okD81_0 : tb_okD 81 0 = true := by decide +kernel
set_option maxRecDepth 100000 in
theorem tb_okD81_1 : tb_okD 81 1 = true := by decide +kernel
set_option maxRecDepth 100000 in
theorem tb_okD82_0 : tb_okD 82 0 = true := by decide +kernel
set_option maxRecDepth 100000 in
theorem tb_okD82_1 : tb_okD 82 1 = true := by decide +kernel
set_option maxRecDepth 100000 in
theorem tb_okD82_2 : tb_okD 82 2 = true := by decide +kernel
set_option maxRecDepth 100000 in
theorem tb_okD83_0 : tb_okD 83 0 = true := by decide +kernel
set_option maxRecDepth 100000 in
theorem tb_okD84_0 : tb_okD 84 0 = true := by decide +kernel
set_option maxRecDepth 100000 in
theorem tb_okD85_0 : tb_okD 85 0 = true := by decide +kernel
set_option maxRecDepth 100000 in
theorem tb_okD85_1 : tb_okD 85 1 = true := by decide +kernel
set_option maxRecDepth 100000 in
theorem tb_okD86_0 : tb_okD 86 0 = true := by decide +kernel
set_option maxRecDepth 100000 in
theorem tb_okD87_0 : tb_okD 87 0 = true := by decide +kernel
set_option maxRecDepth 100000 in
theorem tb_okD88_0 : tb_okD 88 0 = true := by decide +kernel
set_option maxRecDepth 100000 in
theorem tb_okD89_0 : tb_okD 89 0 = true := by decide +kernel
set_option maxRecDepth 100000 in
theorem tb_okD89_1 : tb_okD 89 1 = true := by decide +kernel
set_option maxRecDepth 100000 in
theorem tb_okD90_0 : tb_okD 90 0 = true := by decide +kernel
set_option maxRecDepth 100000 in
theorem tb_okD91_0 : tb_okD 91 0 = true := by decide +kernel
set_option maxRecDepth 100000 in
theorem tb_okD92_0 : tb_okD 92 0 = true := by decide +kernel
set_option maxRecDepth 100000 in
theorem tb_okD93_0 : tb_okD 93 0 = true := by decide +kernel
set_option maxRecDepth 100000 in
theorem tb_okD93_1 : tb_okD 93 1 = true := by decide +kernel
set_option maxRecDepth 100000 in
theorem tb_okD94_0 : tb_okD 94 0 = true := by decide +kernel
set_option maxRecDepth 100000 in
theorem tb_okD95_0 : tb_okD 95 0 = true := by decide +kernel
set_option maxRecDepth 100000 in
theorem tb_okD96_0 : tb_okD 96 0 = true := by decide +kernel
set_option maxRecDepth 100000 in
theorem tb_okD97_0 : tb_okD 97 0 = true := by decide +kernel
set_option maxRecDepth 100000 in
theorem tb_okD98_0 : tb_okD 98 0 = true := by decide +kernel
set_option maxRecDepth 100000 in
theorem tb_okD98_1 : tb_okD 98 1 = true := by decide +kernel
set_option maxRecDepth 100000 in
theorem tb_okD99_0 : tb_okD 99 0 = true := by decide +kernel
set_option maxRecDepth 100000 in
theorem tb_okD100_0 : tb_okD 100 0 = true := by decide +kernel
set_option maxRecDepth 100000 in
theorem tb_okD101_0 : tb_okD 101 0 = true := by decide +kernel
set_option maxRecDepth 100000 in
theorem tb_okD102_0 : tb_okD 102 0 = true := by decide +kernel
set_option maxRecDepth 100000 in
theorem tb_okD102_1 : tb_okD 102 1 = true := by decide +kernel
set_option maxRecDepth 100000 in
theorem tb_okD103_0 : tb_okD 103 0 = true := by decide +kernel
set_option maxRecDepth 100000 in
theorem tb_okD104_0 : tb_okD 104 0 = true := by decide +kernel
set_option maxRecDepth 100000 in
theorem tb_okD104_1 : tb_okD 104 1 = true := by decide +kernel
set_option maxRecDepth 100000 in
theorem tb_okD105_0 : tb_okD 105 0 = true := by decide +kernel
set_option maxRecDepth 100000 in
theorem tb_okD106_0 : tb_okD 106 0 = true := by decide +kernel
set_option maxRecDepth 100000 in
theorem tb_okD107_0 : tb_okD 107 0 = true := by decide +kernel
set_option maxRecDepth 100000 in
theorem tb_okD108_0 : tb_okD 108 0 = true := by decide +kernel
set_option maxRecDepth 100000 in
theorem tb_okD108_1 : tb_okD 108 1 = true := by decide +kernel
set_option maxRecDepth 100000 in
theorem tb_okD108_2 : tb_okD 108 2 = true := by decide +kernel
set_option maxRecDepth 100000 in
theorem tb_okD108_3 : tb_okD 108 3 = true := by decide +kernel
set_option maxRecDepth 100000 in
theorem tb_okD109_0 : tb_okD 109 0 = true := by decide +kernel
set_option maxRecDepth 100000 in
theorem tb_okD110_0 : tb_okD 110 0 = true := by decide +kernel
set_option maxRecDepth 100000 in
theorem tb_okD111_0 : tb_okD 111 0 = true := by decide +kernel
set_option maxRecDepth 100000 in
theorem tb_okD111_1 : tb_okD 111 1 = true := by decide +kernel
set_option maxRecDepth 100000 in
theorem tb_okD111_2 : tb_okD 111 2 = true := by decide +kernel
set_option maxRecDepth 100000 in
theorem tb_okD112_0 : tb_okD 112 0 = true := by decide +kernel
set_option maxRecDepth 100000 in
theorem tb_okD113_0 : tb_okD 113 0 = true := by decide +kernel
set_option maxRecDepth 100000 in
theorem tb_okD114_0 : tb_okD 114 0 = true := by decide +kernel
set_option maxRecDepth 100000 in
theorem tb_okD115_0 : tb_okD 115 0 = true := by decide +kernel
set_option maxRecDepth 100000 in
theorem tb_okD116_0 : tb_okD 116 0 = true := by decide +kernel
set_option maxRecDepth 100000 in
theorem tb_okD117_0 : tb_okD 117 0 = true := by decide +kernel
set_option maxRecDepth 100000 in
theorem tb_okD118_0 : tb_okD 118 0 = true := by decide +kernel
set_option maxRecDepth 100000 in
theorem tb_okD119_0 : tb_okD 119 0 = true := by decide +kernel
set_option maxRecDepth 100000 in
theorem tb_okD120_0 : tb_okD 120 0 = true := by decide +kernel
set_option maxRecDepth 100000 in
theorem tb_okD120_1 : tb_okD 120 1 = true := by decide +kernel
set_option maxRecDepth 100000 in
theorem tb_okD121_0 : tb_okD 121 0 = true := by decide +kernel
set_option maxRecDepth 100000 in
theorem tb_okD122_0 : tb_okD 122 0 = true := by decide +kernel
set_option maxRecDepth 100000 in
theorem tb_okD122_1 : tb_okD 122 1 = true := by decide +kernel
set_option maxRecDepth 100000 in
theorem tb_okD123_0 : tb_okD 123 0 = true := by decide +kernel
set_option maxRecDepth 100000 in
theorem tb_okD123_1 : tb_okD 123 1 = true := by decide +kernel
set_option maxRecDepth 100000 in
theorem tb_okD124_0 : tb_okD 124 0 = true := by decide +kernel
set_option maxRecDepth 100000 in
theorem tb_okD124_1 : tb_okD 124 1 = true := by decide +kernel
set_option maxRecDepth 100000 in
theorem tb_okD125_0 : tb_okD 125 0 = true := by decide +kernel
set_option maxRecDepth 100000 in
theorem tb_okD126_0 : tb_okD 126 0 = true := by decide +kernel
set_option maxRecDepth 100000 in
theorem tb_okD126_1 : tb_okD 126 1 = true := by decide +kernel
set_option maxRecDepth 100000 in
theorem tb_okD126_2 : tb_okD 126 2 = true := by decide +kernel
set_option maxRecDepth 100000 in
theorem tb_okD126_3 : tb_okD 126 3 = true := by decide +kernel
set_option maxRecDepth 100000 in
theorem tb_okD127_0 : tb_okD 127 0 = true := by decide +kernel
set_option maxRecDepth 100000 in
theorem tb_okD127_1 : tb_okD 127 1 = true := by decide +kernel
set_option maxRecDepth 100000 in
theorem tb_okD127_2 : tb_okD 127 2 = true := by decide +kernel
set_option maxRecDepth 100000 in
theorem tb_okD127_3 : tb_okD 127 3 = true := by decide +kernel
set_option maxRecDepth 100000 in
theorem tb_okD128_0 : tb_okD 128 0 = true := by decide +kernel
set_option maxRecDepth 100000 in
theorem tb_okD128_1 : tb_okD 128 1 = true := by decide +kernel
set_option maxRecDepth 100000 in
theorem tb_okD128_2 : tb_okD 128 2 = true := by decide +kernel
set_option maxRecDepth 100000 in
theorem tb_okD128_3 : tb_okD 128 3 = true := by decide +kernel
set_option maxRecDepth 100000 in
theorem tb_okD128_4 : tb_okD 128 4 = true := by decide +kernel
set_option maxRecDepth 100000 in
theorem tb_okD129_0 : tb_okD 129 0 = true := by decide +kernel
set_option maxRecDepth 100000 in
theorem tb_okD130_0 : tb_okD 130 0 = true := by decide +kernel
set_option maxRecDepth 100000 in
theorem tb_okD131_0 : tb_okD 131 0 = true := by decide +kernel
set_option maxRecDepth 100000 in
theorem tb_okD132_0 : tb_okD 132 0 = true := by decide +kernel
set_option maxRecDepth 100000 in
theorem tb_okD132_1 : tb_okD 132 1 = true := by decide +kernel
set_option maxRecDepth 100000 in
theorem tb_okD132_2 : tb_okD 132 2 = true := by decide +kernel
set_option maxRecDepth 100000 in
theorem tb_okD132_3 : tb_okD 132 3 = true := by decide +kernel
set_option maxRecDepth 100000 in
theorem tb_okD132_4 : tb_okD 132 4 = true := by decide +kernel
set_option maxRecDepth 100000 in
theorem tb_okD132_5 : tb_okD 132 5 = true := by decide +kernel
set_option maxRecDepth 100000 in
theorem tb_okD132_6 : tb_okD 132 6 = true := by decide +kernel
set_option maxRecDepth 100000 in
theorem tb_okD133_0 : tb_okD 133 0 = true := by decide +kernel
set_option maxRecDepth 100000 in
theorem tb_okD133_1 : tb_okD 133 1 = true := by decide +kernel
set_option maxRecDepth 100000 in
theorem tb_okD134_0 : tb_okD 134 0 = true := by decide +kernel
set_option maxRecDepth 100000 in
theorem tb_okD134_1 : tb_okD 134 1 = true := by decide +kernel
set_option maxRecDepth 100000 in
theorem tb_okD135_0 : tb_okD 135 0 = true := by decide +kernel
set_option maxRecDepth 100000 in
theorem tb_okD135_1 : tb_okD 135 1 = true := by decide +kernel
set_option maxRecDepth 100000 in
theorem tb_okD135_2 : tb_okD 135 2 = true := by decide +kernel
set_option maxRecDepth 100000 in
theorem tb_okD135_3 : tb_okD 135 3 = true := by decide +kernel
set_option maxRecDepth 100000 in
theorem tb_okD136_0 : tb_okD 136 0 = true := by decide +kernel
set_option maxRecDepth 100000 in
theorem tb_okD136_1 : tb_okD 136 1 = true := by decide +kernel
set_option maxRecDepth 100000 in
theorem tb_okD136_2 : tb_okD 136 2 = true := by decide +kernel
set_option maxRecDepth 100000 in
theorem tb_okD136_3 : tb_okD 136 3 = true := by decide +kernel
set_option maxRecDepth 100000 in
theorem tb_okD137_0 : tb_okD 137 0 = true := by decide +kernel
set_option maxRecDepth 100000 in
theorem tb_okD137_1 : tb_okD 137 1 = true := by decide +kernel
set_option maxRecDepth 100000 in
theorem tb_okD137_2 : tb_okD 137 2 = true := by decide +kernel
set_option maxRecDepth 100000 in
theorem tb_okD138_0 : tb_okD 138 0 = true := by decide +kernel
set_option maxRecDepth 100000 in
theorem tb_okD139_0 : tb_okD 139 0 = true := by decide +kernel
set_option maxRecDepth 100000 in
theorem tb_okD140_0 : tb_okD 140 0 = true := by decide +kernel
set_option maxRecDepth 100000 in
theorem tb_okD140_1 : tb_okD 140 1 = true := by decide +kernel
set_option maxRecDepth 100000 in
theorem tb_okD141_0 : tb_okD 141 0 = true := by decide +kernel
set_option maxRecDepth 100000 in
theorem tb_okD142_0 : tb_okD 142 0 = true := by decide +kernel
set_option maxRecDepth 100000 in
theorem tb_okD143_0 : tb_okD 143 0 = true := by decide +kernel
set_option maxRecDepth 100000 in
theorem tb_okD143_1 : tb_okD 143 1 = true := by decide +kernel
set_option maxRecDepth 100000 in
theorem tb_okD143_2 : tb_okD 143 2 = true := by decide +kernel
set_option maxRecDepth 100000 in
theorem tb_okD144_0 : tb_okD 144 0 = true := by decide +kernel
set_option maxRecDepth 100000 in
theorem tb_okD145_0 : tb_okD 145 0 = true := by decide +kernel
set_option maxRecDepth 100000 in
theorem tb_okD145_1 : tb_okD 145 1 = true := by decide +kernel
set_option maxRecDepth 100000 in
theorem tb_okD146_0 : tb_okD 146 0 = true := by decide +kernel
set_option maxRecDepth 100000 in
theorem tb_okD146_1 : tb_okD 146 1 = true := by decide +kernel
set_option maxRecDepth 100000 in
theorem tb_okD146_2 : tb_okD 146 2 = true := by decide +kernel
set_option maxRecDepth 100000 in
theorem tb_okD146_3 : tb_okD 146 3 = true := by decide +kernel
set_option maxRecDepth 100000 in
theorem tb_okD146_4 : tb_okD 146 4 = true := by decide +kernel
set_option maxRecDepth 100000 in
theorem tb_okD147_0 : tb_okD 147 0 = true := by decide +kernel
set_option maxRecDepth 100000 in
theorem tb_okD148_0 : tb_okD 148 0 = true := by decide +kernel
set_option maxRecDepth 100000 in
theorem tb_okD_all : ∀ q ∈ [(0, 0), (0, 1), (0, 2), (0, 3), (0, 4), (0, 5), (0, 6), (0, 7), (0, 8), (0, 9), (0, 10), (0, 11), (0, 12), (0, 13), (1, 0), (1, 1), (2, 0), (3, 0), (4, 0), (5, 0), (6, 0), (7, 0), (8, 0), (8, 1), (9, 0), (10, 0), (11, 0), (12, 0), (13, 0), (14, 0), (15, 0), (16, 0), (17, 0), (18, 0), (19, 0), (20, 0), (21, 0), (22, 0), (23, 0), (23, 1), (24, 0), (25, 0), (26, 0), (27, 0), (28, 0), (29, 0), (30, 0), (31, 0), (31, 1), (32, 0), (33, 0), (34, 0), (35, 0), (36, 0), (37, 0), (38, 0), (39, 0), (40, 0), (41, 0), (42, 0), (43, 0), (44, 0), (45, 0), (46, 0), (47, 0), (48, 0), (49, 0), (50, 0), (51, 0), (52, 0), (52, 1), (52, 2), (53, 0), (54, 0), (55, 0), (56, 0), (57, 0), (58, 0), (58, 1), (58, 2), (59, 0), (60, 0), (60, 1), (61, 0), (61, 1), (62, 0), (63, 0), (64, 0), (64, 1), (64, 2), (65, 0), (66, 0), (67, 0), (68, 0), (69, 0), (70, 0), (70, 1), (71, 0), (72, 0), (72, 1), (73, 0), (74, 0), (74, 1), (75, 0), (76, 0), (77, 0), (78, 0), (78, 1), (79, 0), (79, 1), (80, 0), (81, 0), (81, 1), (82, 0), (82, 1), (82, 2), (83, 0), (84, 0), (85, 0), (85, 1), (86, 0), (87, 0), (88, 0), (89, 0), (89, 1), (90, 0), (91, 0), (92, 0), (93, 0), (93, 1), (94, 0), (95, 0), (96, 0), (97, 0), (98, 0), (98, 1), (99, 0), (100, 0), (101, 0), (102, 0), (102, 1), (103, 0), (104, 0), (104, 1), (105, 0), (106, 0), (107, 0), (108, 0), (108, 1), (108, 2), (108, 3), (109, 0), (110, 0), (111, 0), (111, 1), (111, 2), (112, 0), (113, 0), (114, 0), (115, 0), (116, 0), (117, 0), (118, 0), (119, 0), (120, 0), (120, 1), (121, 0), (122, 0), (122, 1), (123, 0), (123, 1), (124, 0), (124, 1), (125, 0), (126, 0), (126, 1), (126, 2), (126, 3), (127, 0), (127, 1), (127, 2), (127, 3), (128, 0), (128, 1), (128, 2), (128, 3), (128, 4), (129, 0), (130, 0), (131, 0), (132, 0), (132, 1), (132, 2), (132, 3), (132, 4), (132, 5), (132, 6), (133, 0), (133, 1), (134, 0), (134, 1), (135, 0), (135, 1), (135, 2), (135, 3), (136, 0), (136, 1), (136, 2), (136, 3), (137, 0), (137, 1), (137, 2), (138, 0), (139, 0), (140, 0), (140, 1), (141, 0), (142, 0), (143, 0), (143, 1), (143, 2), (144, 0), (145, 0), (145, 1), (146, 0), (146, 1), (146, 2), (146, 3), (146, 4), (147, 0), (148, 0)], tb_okD q.1 q.2 = true := List.forall_mem_cons.mpr ⟨tb_okD0_0, List.forall_mem_cons.mpr ⟨tb_okD0_1, List.forall_mem_cons.mpr ⟨tb_okD0_2, List.forall_mem_cons.mpr ⟨tb_okD0_3, List.forall_mem_cons.mpr ⟨tb_okD0_4, List.forall_mem_cons.mpr ⟨tb_okD0_5, List.forall_mem_cons.mpr ⟨tb_okD0_6, List.forall_mem_cons.mpr ⟨tb_okD0_7, List.forall_mem_cons.mpr ⟨tb_okD0_8, List.forall_mem_cons.mpr ⟨tb_okD0_9, List.forall_mem_cons.mpr ⟨tb_okD0_10, List.forall_mem_cons.mpr ⟨tb_okD0_11, List.forall_mem_cons.mpr ⟨tb_okD0_12, List.forall_mem_cons.mpr ⟨tb_okD0_13, List.forall_mem_cons.mpr ⟨tb_okD1_0, List.forall_mem_cons.mpr ⟨tb_okD1_1, List.forall_mem_cons.mpr ⟨tb_okD2_0, List.forall_mem_cons.mpr ⟨tb_okD3_0, List.forall_mem_cons.mpr ⟨tb_okD4_0, List.forall_mem_cons.mpr ⟨tb_okD5_0, List.forall_mem_cons.mpr ⟨tb_okD6_0, List.forall_mem_cons.mpr ⟨tb_okD7_0, List.forall_mem_cons.mpr ⟨tb_okD8_0, List.forall_mem_cons.mpr ⟨tb_okD8_1, List.forall_mem_cons.mpr ⟨tb_okD9_0, List.forall_mem_cons.mpr ⟨tb_okD10_0, List.forall_mem_cons.mpr ⟨tb_okD11_0, List.forall_mem_cons.mpr ⟨tb_okD12_0, List.forall_mem_cons.mpr ⟨tb_okD13_0, List.forall_mem_cons.mpr ⟨tb_okD14_0, List.forall_mem_cons.mpr ⟨tb_okD15_0, List.forall_mem_cons.mpr ⟨tb_okD16_0, List.forall_mem_cons.mpr ⟨tb_okD17_0, List.forall_mem_cons.mpr ⟨tb_okD18_0, List.forall_mem_cons.mpr ⟨tb_okD19_0, List.forall_mem_cons.mpr ⟨tb_okD20_0, List.forall_mem_cons.mpr ⟨tb_okD21_0, List.forall_mem_cons.mpr ⟨tb_okD22_0, List.forall_mem_cons.mpr ⟨tb_okD23_0, List.forall_mem_cons.mpr ⟨tb_okD23_1, List.forall_mem_cons.mpr ⟨tb_okD24_0, List.forall_mem_cons.mpr ⟨tb_okD25_0, List.forall_mem_cons.mpr ⟨tb_okD26_0, List.forall_mem_cons.mpr ⟨tb_okD27_0, List.forall_mem_cons.mpr ⟨tb_okD28_0, List.forall_mem_cons.mpr ⟨tb_okD29_0, List.forall_mem_cons.mpr ⟨tb_okD30_0, List.forall_mem_cons.mpr ⟨tb_okD31_0, List.forall_mem_cons.mpr ⟨tb_okD31_1, List.forall_mem_cons.mpr ⟨tb_okD32_0, List.forall_mem_cons.mpr ⟨tb_okD33_0, List.forall_mem_cons.mpr ⟨tb_okD34_0, List.forall_mem_cons.mpr ⟨tb_okD35_0, List.forall_mem_cons.mpr ⟨tb_okD36_0, List.forall_mem_cons.mpr ⟨tb_okD37_0, List.forall_mem_cons.mpr ⟨tb_okD38_0, List.forall_mem_cons.mpr ⟨tb_okD39_0, List.forall_mem_cons.mpr ⟨tb_okD40_0, List.forall_mem_cons.mpr ⟨tb_okD41_0, List.forall_mem_cons.mpr ⟨tb_okD42_0, List.forall_mem_cons.mpr ⟨tb_okD43_0, List.forall_mem_cons.mpr ⟨tb_okD44_0, List.forall_mem_cons.mpr ⟨tb_okD45_0, List.forall_mem_cons.mpr ⟨tb_okD46_0, List.forall_mem_cons.mpr ⟨tb_okD47_0, List.forall_mem_cons.mpr ⟨tb_okD48_0, List.forall_mem_cons.mpr ⟨tb_okD49_0, List.forall_mem_cons.mpr ⟨tb_okD50_0, List.forall_mem_cons.mpr ⟨tb_okD51_0, List.forall_mem_cons.mpr ⟨tb_okD52_0, List.forall_mem_cons.mpr ⟨tb_okD52_1, List.forall_mem_cons.mpr ⟨tb_okD52_2, List.forall_mem_cons.mpr ⟨tb_okD53_0, List.forall_mem_cons.mpr ⟨tb_okD54_0, List.forall_mem_cons.mpr ⟨tb_okD55_0, List.forall_mem_cons.mpr ⟨tb_okD56_0, List.forall_mem_cons.mpr ⟨tb_okD57_0, List.forall_mem_cons.mpr ⟨tb_okD58_0, List.forall_mem_cons.mpr ⟨tb_okD58_1, List.forall_mem_cons.mpr ⟨tb_okD58_2, List.forall_mem_cons.mpr ⟨tb_okD59_0, List.forall_mem_cons.mpr ⟨tb_okD60_0, List.forall_mem_cons.mpr ⟨tb_okD60_1, List.forall_mem_cons.mpr ⟨tb_okD61_0, List.forall_mem_cons.mpr ⟨tb_okD61_1, List.forall_mem_cons.mpr ⟨tb_okD62_0, List.forall_mem_cons.mpr ⟨tb_okD63_0, List.forall_mem_cons.mpr ⟨tb_okD64_0, List.forall_mem_cons.mpr ⟨tb_okD64_1, List.forall_mem_cons.mpr ⟨tb_okD64_2, List.forall_mem_cons.mpr ⟨tb_okD65_0, List.forall_mem_cons.mpr ⟨tb_okD66_0, List.forall_mem_cons.mpr ⟨tb_okD67_0, List.forall_mem_cons.mpr ⟨tb_okD68_0, List.forall_mem_cons.mpr ⟨tb_okD69_0, List.forall_mem_cons.mpr ⟨tb_okD70_0, List.forall_mem_cons.mpr ⟨tb_okD70_1, List.forall_mem_cons.mpr ⟨tb_okD71_0, List.forall_mem_cons.mpr ⟨tb_okD72_0, List.forall_mem_cons.mpr ⟨tb_okD72_1, List.forall_mem_cons.mpr ⟨tb_okD73_0, List.forall_mem_cons.mpr ⟨tb_okD74_0, List.forall_mem_cons.mpr ⟨tb_okD74_1, List.forall_mem_cons.mpr ⟨tb_okD75_0, List.forall_mem_cons.mpr ⟨tb_okD76_0, List.forall_mem_cons.mpr ⟨tb_okD77_0, List.forall_mem_cons.mpr ⟨tb_okD78_0, List.forall_mem_cons.mpr ⟨tb_okD78_1, List.forall_mem_cons.mpr ⟨tb_okD79_0, List.forall_mem_cons.mpr ⟨tb_okD79_1, List.forall_mem_cons.mpr ⟨tb_okD80_0, List.forall_mem_cons.mpr ⟨tb_okD81_0, List.forall_mem_cons.mpr ⟨tb_okD81_1, List.forall_mem_cons.mpr ⟨tb_okD82_0, List.forall_mem_cons.mpr ⟨tb_okD82_1, List.forall_mem_cons.mpr ⟨tb_okD82_2, List.forall_mem_cons.mpr ⟨tb_okD83_0, List.forall_mem_cons.mpr ⟨tb_okD84_0, List.forall_mem_cons.mpr ⟨tb_okD85_0, List.forall_mem_cons.mpr ⟨tb_okD85_1, List.forall_mem_cons.mpr ⟨tb_okD86_0, List.forall_mem_cons.mpr ⟨tb_okD87_0, List.forall_mem_cons.mpr ⟨tb_okD88_0, List.forall_mem_cons.mpr ⟨tb_okD89_0, List.forall_mem_cons.mpr ⟨tb_okD89_1, List.forall_mem_cons.mpr ⟨tb_okD90_0, List.forall_mem_cons.mpr ⟨tb_okD91_0, List.forall_mem_cons.mpr ⟨tb_okD92_0, List.forall_mem_cons.mpr ⟨tb_okD93_0, List.forall_mem_cons.mpr ⟨tb_okD93_1, List.forall_mem_cons.mpr ⟨tb_okD94_0, List.forall_mem_cons.mpr ⟨tb_okD95_0, List.forall_mem_cons.mpr ⟨tb_okD96_0, List.forall_mem_cons.mpr ⟨tb_okD97_0, List.forall_mem_cons.mpr ⟨tb_okD98_0, List.forall_mem_cons.mpr ⟨tb_okD98_1, List.forall_mem_cons.mpr ⟨tb_okD99_0, List.forall_mem_cons.mpr ⟨tb_okD100_0, List.forall_mem_cons.mpr ⟨tb_okD101_0, List.forall_mem_cons.mpr ⟨tb_okD102_0, List.forall_mem_cons.mpr ⟨tb_okD102_1, List.forall_mem_cons.mpr ⟨tb_okD103_0, List.forall_mem_cons.mpr ⟨tb_okD104_0, List.forall_mem_cons.mpr ⟨tb_okD104_1, List.forall_mem_cons.mpr ⟨tb_okD105_0, List.forall_mem_cons.mpr ⟨tb_okD106_0, List.forall_mem_cons.mpr ⟨tb_okD107_0, List.forall_mem_cons.mpr ⟨tb_okD108_0, List.forall_mem_cons.mpr ⟨tb_okD108_1, List.forall_mem_cons.mpr ⟨tb_okD108_2, List.forall_mem_cons.mpr ⟨tb_okD108_3, List.forall_mem_cons.mpr ⟨tb_okD109_0, List.forall_mem_cons.mpr ⟨tb_okD110_0, List.forall_mem_cons.mpr ⟨tb_okD111_0, List.forall_mem_cons.mpr ⟨tb_okD111_1, List.forall_mem_cons.mpr ⟨tb_okD111_2, List.forall_mem_cons.mpr ⟨tb_okD112_0, List.forall_mem_cons.mpr ⟨tb_okD113_0, List.forall_mem_cons.mpr ⟨tb_okD114_0, List.forall_mem_cons.mpr ⟨tb_okD115_0, List.forall_mem_cons.mpr ⟨tb_okD116_0, List.forall_mem_cons.mpr ⟨tb_okD117_0, List.forall_mem_cons.mpr ⟨tb_okD118_0, List.forall_mem_cons.mpr ⟨tb_okD119_0, List.forall_mem_cons.mpr ⟨tb_okD120_0, List.forall_mem_cons.mpr ⟨tb_okD120_1, List.forall_mem_cons.mpr ⟨tb_okD121_0, List.forall_mem_cons.mpr ⟨tb_okD122_0, List.forall_mem_cons.mpr ⟨tb_okD122_1, List.forall_mem_cons.mpr ⟨tb_okD123_0, List.forall_mem_cons.mpr ⟨tb_okD123_1, List.forall_mem_cons.mpr ⟨tb_okD124_0, List.forall_mem_cons.mpr ⟨tb_okD124_1, List.forall_mem_cons.mpr ⟨tb_okD125_0, List.forall_mem_cons.mpr ⟨tb_okD126_0, List.forall_mem_cons.mpr ⟨tb_okD126_1, List.forall_mem_cons.mpr ⟨tb_okD126_2, List.forall_mem_cons.mpr ⟨tb_okD126_3, List.forall_mem_cons.mpr ⟨tb_okD127_0, List.forall_mem_cons.mpr ⟨tb_okD127_1, List.forall_mem_cons.mpr ⟨tb_okD127_2, List.forall_mem_cons.mpr ⟨tb_okD127_3, List.forall_mem_cons.mpr ⟨tb_okD128_0, List.forall_mem_cons.mpr ⟨tb_okD128_1, List.forall_mem_cons.mpr ⟨tb_okD128_2, List.forall_mem_cons.mpr ⟨tb_okD128_3, List.forall_mem_cons.mpr ⟨tb_okD128_4, List.forall_mem_cons.mpr ⟨tb_okD129_0, List.forall_mem_cons.mpr ⟨tb_okD130_0, List.forall_mem_cons.mpr ⟨tb_okD131_0, List.forall_mem_cons.mpr ⟨tb_okD132_0, List.forall_mem_cons.mpr ⟨tb_okD132_1, List.forall_mem_cons.mpr ⟨tb_okD132_2, List.forall_mem_cons.mpr ⟨tb_okD132_3, List.forall_mem_cons.mpr ⟨tb_okD132_4, List.forall_mem_cons.mpr ⟨tb_okD132_5, List.forall_mem_cons.mpr ⟨tb_okD132_6, List.forall_mem_cons.mpr ⟨tb_okD133_0, List.forall_mem_cons.mpr ⟨tb_okD133_1, List.forall_mem_cons.mpr ⟨tb_okD134_0, List.forall_mem_cons.mpr ⟨tb_okD134_1, List.forall_mem_cons.mpr ⟨tb_okD135_0, List.forall_mem_cons.mpr ⟨tb_okD135_1, List.forall_mem_cons.mpr ⟨tb_okD135_2, List.forall_mem_cons.mpr ⟨tb_okD135_3, List.forall_mem_cons.mpr ⟨tb_okD136_0, List.forall_mem_cons.mpr ⟨tb_okD136_1, List.forall_mem_cons.mpr ⟨tb_okD136_2, List.forall_mem_cons.mpr ⟨tb_okD136_3, List.forall_mem_cons.mpr ⟨tb_okD137_0, List.forall_mem_cons.mpr ⟨tb_okD137_1, List.forall_mem_cons.mpr ⟨tb_okD137_2, List.forall_mem_cons.mpr ⟨tb_okD138_0, List.forall_mem_cons.mpr ⟨tb_okD139_0, List.forall_mem_cons.mpr ⟨tb_okD140_0, List.forall_mem_cons.mpr ⟨tb_okD140_1, List.forall_mem_cons.mpr ⟨tb_okD141_0, List.forall_mem_cons.mpr ⟨tb_okD142_0, List.forall_mem_cons.mpr ⟨tb_okD143_0, List.forall_mem_cons.mpr ⟨tb_okD143_1, List.forall_mem_cons.mpr ⟨tb_okD143_2, List.forall_mem_cons.mpr ⟨tb_okD144_0, List.forall_mem_cons.mpr ⟨tb_okD145_0, List.forall_mem_cons.mpr ⟨tb_okD145_1, List.forall_mem_cons.mpr ⟨tb_okD146_0, List.forall_mem_cons.mpr ⟨tb_okD146_1, List.forall_mem_cons.mpr ⟨tb_okD146_2, List.forall_mem_cons.mpr ⟨tb_okD146_3, List.forall_mem_cons.mpr ⟨tb_okD146_4, List.forall_mem_cons.mpr ⟨tb_okD147_0, List.forall_mem_cons.mpr ⟨tb_okD148_0, fun _ h => absurd h List.not_mem_nil⟩⟩⟩⟩⟩⟩⟩⟩⟩⟩⟩⟩⟩⟩⟩⟩⟩⟩⟩⟩⟩⟩⟩⟩⟩⟩⟩⟩⟩⟩⟩⟩⟩⟩⟩⟩⟩⟩⟩⟩⟩⟩⟩⟩⟩⟩⟩⟩⟩⟩⟩⟩⟩⟩⟩⟩⟩⟩⟩⟩⟩⟩⟩⟩⟩⟩⟩⟩⟩⟩⟩⟩⟩⟩⟩⟩⟩⟩⟩⟩⟩⟩⟩⟩⟩⟩⟩⟩⟩⟩⟩⟩⟩⟩⟩⟩⟩⟩⟩⟩⟩⟩⟩⟩⟩⟩⟩⟩⟩⟩⟩⟩⟩⟩⟩⟩⟩⟩⟩⟩⟩⟩⟩⟩⟩⟩⟩⟩⟩⟩⟩⟩⟩⟩⟩⟩⟩⟩⟩⟩⟩⟩⟩⟩⟩⟩⟩⟩⟩⟩⟩⟩⟩⟩⟩⟩⟩⟩⟩⟩⟩⟩⟩⟩⟩⟩⟩⟩⟩⟩⟩⟩⟩⟩⟩⟩⟩⟩⟩⟩⟩⟩⟩⟩⟩⟩⟩⟩⟩⟩⟩⟩⟩⟩⟩⟩⟩⟩⟩⟩⟩⟩⟩⟩⟩⟩⟩⟩⟩⟩⟩⟩⟩⟩⟩⟩⟩⟩⟩⟩⟩⟩⟩⟩⟩⟩⟩⟩⟩⟩⟩
end
section
/-! THE MODEL'S HEAP IN THE JVM'S HEAP -/
/-- ((the script's cell, where new cells begin), where texts lie, (classes, slots), the classes of arrays and exceptions) -/
abbrev mm_P : Type := (Nat × Nat) × (Nat → Nat) × va_G × (Nat → ClassId)
def mm_ad (P : mm_P) (a : Nat) : Nat := if a = 0 then P.1.1 else P.1.2 + (a - 1)
def mm_rv (P : mm_P) : Value → Value
  | .ref a => .ref (mm_ad P a)
  | .float q => .ref (P.2.1 q.toNat)
  | .int x => .int x
  | .long x => .long x
  | .double x => .double x
  | .null => .null
  | .retAddr q => .retAddr q
theorem mm_ad_inj {P : mm_P} (hb : P.1.1 < P.1.2) {a b : Nat} (h : mm_ad P a = mm_ad P b) : a = b := by
  unfold mm_ad at h
  split at h <;> split at h <;> omega
theorem mm_rv_cat (P : mm_P) (v : Value) : (mm_rv P v).category = v.category ∨ v.category = 1 ∧ (mm_rv P v).category = 1 := by
  cases v <;> simp [mm_rv, Value.category]
theorem mm_rv_cat2 {P : mm_P} {v : Value} (h : (mm_rv P v).category = 2) : v.category = 2 := by
  cases v <;> simp [mm_rv, Value.category] at h ⊢
theorem mm_rv_cat1 {P : mm_P} {v : Value} (h : v.category = 1) : (mm_rv P v).category = 1 := by
  cases v <;> simp [mm_rv, Value.category] at h ⊢
def mm_aty : Nat → FieldType
  | 20 => .int
  | 21 => .long
  | 22 => .boolean
  | 23 => .object "LoadRoom$Piece"
  | 24 => .object "LoadRoom$Placed"
  | 25 => .object "LoadRoom$Floor"
  | _ => .array .int
def mm_av (P : mm_P) (h : mm_H) (a kd j : Nat) : Value := if kd = 21 then .long (mm_l h a j) else if 23 ≤ kd then mm_rv P (mm_o (mm_r h a j)) else .int (mm_i h a j)
def mm_fv (P : mm_P) (h : mm_H) (a ty k : Nat) : Value := if ty = 1 then .long (mm_l h a k) else if ty = 2 then mm_rv P (mm_o (mm_r h a k)) else .int (mm_i h a k)
def mm_fty (kd k : Nat) : Nat := (tb_ty.getD kd []).getD k 0
def mm_fn (kd : Nat) : Nat := (tb_ty.getD kd []).length
/-- an exception's cell -/
def mm_xc (s : State) (cell : Cell) : Prop := cell.monitor.owner = none ∧ cell.monitor.count = 0 ∧ ∃ k : Class, s.vm.classes[cell.cls]? = some k ∧ k.kind = .ordinary ∧ cell.slots.size = k.instanceTypes.size
def mm_cl (P : mm_P) (s : State) (h : mm_H) (a : Nat) (cell : Cell) : Prop :=
  ((mm_s h a).1 < 11 ∧ cell.cls = P.2.2.1.1 (mm_s h a).1 ∧ cell.vm = .none ∧ ∀ k, k < mm_fn (mm_s h a).1 → cell.slots[P.2.2.1.2 (mm_s h a).1 k]? = some (mm_fv P h a (mm_fty (mm_s h a).1 k) k)) ∨
  ((20 ≤ (mm_s h a).1 ∧ (mm_s h a).1 ≤ 26) ∧ cell.slots.size = (mm_s h a).2 ∧ s.isArrayOf cell (mm_aty (mm_s h a).1) ∧ (23 ≤ (mm_s h a).1 → cell.cls = P.2.2.2 (mm_s h a).1) ∧ ∀ j, j < (mm_s h a).2 → cell.slots[j]? = some (mm_av P h a (mm_s h a).1 j)) ∨
  ((30 ≤ (mm_s h a).1 ∧ (mm_s h a).1 ≤ 33) ∧ cell.cls = P.2.2.2 (mm_s h a).1 ∧ cell.vm = .none ∧ mm_xc s cell)
def mm_ok (P : mm_P) (s : State) (h : mm_H) (H : Heap) (a : Nat) : Prop := ∃ cell : Cell, H[mm_ad P a]? = some cell ∧ cell.vm ≠ .unknown ∧ mm_cl P s h a cell
def mm_rep (P : mm_P) (s : State) (h : mm_H) (H : Heap) : Prop :=
  1 ≤ mm_n h ∧ H.size + 1 = P.1.2 + mm_n h ∧ P.1.1 < P.1.2 ∧ (mm_s h 0).1 = 20 ∧ (∀ a, mm_n h ≤ a → (mm_s h a).1 = 15) ∧ ∀ a, a < mm_n h → mm_ok P s h H a
theorem mm_rep.lt {P : mm_P} {s : State} {h : mm_H} {H : Heap} (r : mm_rep P s h H) {a : Nat} (hk : (mm_s h a).1 ≠ 15) : a < mm_n h := by
  rcases Nat.lt_or_ge a (mm_n h) with q | q
  · exact q
  · exact absurd (r.2.2.2.2.1 a q) hk
theorem mm_rep.ad {P : mm_P} {s : State} {h : mm_H} {H : Heap} (r : mm_rep P s h H) {a : Nat} (ha : a < mm_n h) : mm_ad P a < H.size := by
  obtain ⟨cell, h1, -⟩ := r.2.2.2.2.2 a ha
  exact (Array.getElem?_eq_some_iff.mp h1).1
/-- an object's cell -/
theorem mm_rep.obj {P : mm_P} {s : State} {h : mm_H} {H : Heap} (r : mm_rep P s h H) {a kd : Nat} (hk : (mm_s h a).1 = kd) (hkd : kd < 11) :
    a < mm_n h ∧ ¬ a = 0 ∧ ∃ cell : Cell, H[mm_ad P a]? = some cell ∧ cell.cls = P.2.2.1.1 kd ∧ cell.vm = .none ∧ ∀ k, k < mm_fn kd → cell.slots[P.2.2.1.2 kd k]? = some (mm_fv P h a (mm_fty kd k) k) := by
  have ha := r.lt (a := a) (by omega)
  refine ⟨ha, fun e => ?_, ?_⟩
  · subst e
    have := r.2.2.2.1
    omega
  · obtain ⟨cell, h1, -, h3⟩ := r.2.2.2.2.2 a ha
    rw [mm_cl, hk] at h3
    rcases h3 with ⟨-, q1, q2, q3⟩ | ⟨q, -⟩ | ⟨q, -⟩
    · exact ⟨cell, h1, q1, q2, q3⟩
    · omega
    · omega
theorem mm_rep.arr {P : mm_P} {s : State} {h : mm_H} {H : Heap} (r : mm_rep P s h H) {a kd : Nat} (hk : (mm_s h a).1 = kd) (h1 : 20 ≤ kd) (h2 : kd ≤ 26) :
    a < mm_n h ∧ ∃ cell : Cell, H[mm_ad P a]? = some cell ∧ cell.vm ≠ .unknown ∧ cell.slots.size = (mm_s h a).2 ∧ s.isArrayOf cell (mm_aty kd) ∧ (23 ≤ kd → cell.cls = P.2.2.2 kd) ∧ ∀ j, j < (mm_s h a).2 → cell.slots[j]? = some (mm_av P h a kd j) := by
  have ha := r.lt (a := a) (by omega)
  refine ⟨ha, ?_⟩
  obtain ⟨cell, e1, e2, h3⟩ := r.2.2.2.2.2 a ha
  rw [mm_cl, hk] at h3
  rcases h3 with ⟨q, -⟩ | ⟨-, q1, q2, q3, q4⟩ | ⟨q, -⟩
  · omega
  · exact ⟨cell, e1, e2, q1, q2, q3, q4⟩
  · omega
theorem mm_rep.exc {P : mm_P} {s : State} {h : mm_H} {H : Heap} (r : mm_rep P s h H) {a kd : Nat} (hk : (mm_s h a).1 = kd) (h1 : 30 ≤ kd) :
    a < mm_n h ∧ ¬ a = 0 ∧ kd ≤ 33 ∧ ∃ cell : Cell, H[mm_ad P a]? = some cell ∧ cell.cls = P.2.2.2 kd ∧ cell.vm = .none ∧ mm_xc s cell := by
  have ha := r.lt (a := a) (by omega)
  obtain ⟨cell, e1, e2, h3⟩ := r.2.2.2.2.2 a ha
  rw [mm_cl, hk] at h3
  rcases h3 with ⟨q, -⟩ | ⟨q, -⟩ | ⟨q, q1, q2, q3⟩
  · omega
  · omega
  · refine ⟨ha, fun e => ?_, q.2, cell, e1, q1, q2, q3⟩
    subst e
    have := r.2.2.2.1
    omega
/-- one cell is written -/
theorem mm_rep.upd {P : mm_P} {s : State} {h h' : mm_H} {H H' : Heap} (r : mm_rep P s h H) {a : Nat} (ha : a < mm_n h) (hz : H'.size = H.size) (ho : ∀ q, q ≠ mm_ad P a → H'[q]? = H[q]?)
    (hn : mm_n h' = mm_n h) (hs : mm_s h' = mm_s h) (hi : ∀ b k, b ≠ a → mm_i h' b k = mm_i h b k) (hl : ∀ b k, b ≠ a → mm_l h' b k = mm_l h b k) (hr : ∀ b k, b ≠ a → mm_r h' b k = mm_r h b k)
    (hok : mm_ok P s h' H' a) : mm_rep P s h' H' := by
  obtain ⟨r1, r2, r3, r4, r5, r6⟩ := r
  refine ⟨by rw [hn]; exact r1, by rw [hn, hz]; exact r2, r3, by rw [hs]; exact r4, fun b hb => by rw [hs]; exact r5 b (by rw [← hn]; exact hb), fun b hb => ?_⟩
  by_cases e : b = a
  · subst e; exact hok
  · obtain ⟨cell, e1, e2, e3⟩ := r6 b (by rw [← hn]; exact hb)
    refine ⟨cell, by rw [ho _ (fun q => e (mm_ad_inj r3 q))]; exact e1, e2, ?_⟩
    have fv : ∀ ty k, mm_fv P h' b ty k = mm_fv P h b ty k := fun ty k => by simp only [mm_fv, hi b k e, hl b k e, hr b k e]
    have av : ∀ kd j, mm_av P h' b kd j = mm_av P h b kd j := fun kd k => by simp only [mm_av, hi b k e, hl b k e, hr b k e]
    simp only [mm_cl, hs, fv, av]
    exact e3
/-- a cell is made -/
theorem mm_rep.nw {P : mm_P} {s : State} {h : mm_H} {H H' : Heap} {kd len sl : Nat} (r : mm_rep P s h H) (hz : H'.size = H.size + 1) (ho : ∀ q, q < H.size → H'[q]? = H[q]?)
    (hok : mm_ok P s (mm_nw h kd len sl) H' (mm_n h)) : mm_rep P s (mm_nw h kd len sl) H' := by
  have r' := r
  obtain ⟨r1, r2, r3, r4, r5, r6⟩ := r
  refine ⟨by rw [mm_n_nw]; omega, by rw [mm_n_nw, hz]; omega, r3, ?_, fun b hb => ?_, fun b hb => ?_⟩
  · rw [mm_s_nw, if_neg (by omega)]; exact r4
  · rw [mm_n_nw] at hb
    rw [mm_s_nw, if_neg (by omega)]; exact r5 b (by omega)
  · rw [mm_n_nw] at hb
    by_cases e : b = mm_n h
    · subst e; exact hok
    · have hbl : b < mm_n h := by omega
      obtain ⟨cell, e1, e2, e3⟩ := r6 b hbl
      refine ⟨cell, by rw [ho _ (r'.ad hbl)]; exact e1, e2, ?_⟩
      have fv : ∀ ty k, mm_fv P (mm_nw h kd len sl) b ty k = mm_fv P h b ty k := fun ty k => by simp only [mm_fv, mm_i_nw, mm_l_nw, mm_r_nw, if_neg e]
      have av : ∀ kd' j, mm_av P (mm_nw h kd len sl) b kd' j = mm_av P h b kd' j := fun kd' k => by simp only [mm_av, mm_i_nw, mm_l_nw, mm_r_nw, if_neg e]
      simp only [mm_cl, mm_s_nw, if_neg e, fv, av]
      exact e3
theorem mm_ad_new {P : mm_P} {s : State} {h : mm_H} {H : Heap} (r : mm_rep P s h H) : mm_ad P (mm_n h) = H.size := by
  obtain ⟨r1, r2, -⟩ := r
  unfold mm_ad
  rw [if_neg (by omega)]
  omega
theorem mm_ad_base {P : mm_P} {a : Nat} (ha : ¬ a = 0) : P.1.2 ≤ mm_ad P a := by
  unfold mm_ad
  rw [if_neg ha]
  omega
/-- to another state's tables -/
theorem mm_rep.moved {P : mm_P} {s U : State} {h : mm_H} {H : Heap} (hvm : s.vm.Alike U.vm) (r : mm_rep P s h H) : mm_rep P U h H := by
  obtain ⟨r1, r2, r3, r4, r5, r6⟩ := r
  refine ⟨r1, r2, r3, r4, r5, fun a ha => ?_⟩
  obtain ⟨cell, e1, e2, e3⟩ := r6 a ha
  refine ⟨cell, e1, e2, ?_⟩
  rcases e3 with q | ⟨q0, q1, q2, q3, q4⟩ | ⟨q0, q1, q2, x1, x2, k, x3, x4, x5⟩
  · exact Or.inl q
  · exact Or.inr (Or.inl ⟨q0, q1, State.isArrayOf_alike hvm q2, q3, q4⟩)
  · obtain ⟨k', hk', he⟩ := hvm.2.2 _ _ x3
    exact Or.inr (Or.inr ⟨q0, q1, q2, x1, x2, k', hk', by rw [he]; exact x4, by rw [he]; exact x5⟩)
/-! the variables -/
def mm_lv (P : mm_P) (y : Nat) (ls : List Value) (lsR : Array Slot) : Prop :=
  lsR.size = tb_nL y ∧ ls.length = tb_nL y ∧ lv_wf lsR ∧ (∀ (i : Nat) (v : Value), ls[i]? = some v → v ≠ mm_j → lsR[i]? = some (Slot.val (mm_rv P v))) ∧ ∀ (i : Nat) (v : Value), ls[i]? = some v → v.category = 2 → i ∈ tb_lng.getD y []
def mm_pr1 (k : Nat) : Option Slot → Option (Nat × Value)
  | some (.val v) => some (k, v)
  | _ => none
def mm_prs (lsR : Array Slot) : List (Nat × Value) := (List.range lsR.size).filterMap (fun k => mm_pr1 k lsR[k]?)
theorem mm_prs_mem {lsR : Array Slot} {k : Nat} {v : Value} : (k, v) ∈ mm_prs lsR ↔ lsR[k]? = some (.val v) := by
  constructor
  · intro h
    obtain ⟨j, -, hj⟩ := List.mem_filterMap.mp h
    cases hs : lsR[j]? with
    | none => simp [hs, mm_pr1] at hj
    | some z =>
      cases z with
      | val w =>
        simp only [hs, mm_pr1, Option.some.injEq, Prod.mk.injEq] at hj
        obtain ⟨rfl, rfl⟩ := hj
        exact hs
      | _ => simp [hs, mm_pr1] at hj
  · intro h
    refine List.mem_filterMap.mpr ⟨k, List.mem_range.mpr (Array.getElem?_eq_some_iff.mp h).1, ?_⟩
    simp [h, mm_pr1]
theorem mm_prs_has {lsR : Array Slot} {nL : Nat} (hs : lsR.size = nL) (hw : lv_wf lsR) : lv_has lsR nL (mm_prs lsR) := ⟨hs, hw, fun q hq => mm_prs_mem.mp (by obtain ⟨k, v⟩ := q; exact hq)⟩
theorem mm_lv.at {P : mm_P} {y : Nat} {ls : List Value} {lsR : Array Slot} (h : mm_lv P y ls lsR) {i : Nat} {v : Value} (hi : ls[i]? = some v) (hv : v ≠ mm_j) : lsR[i]? = some (.val (mm_rv P v)) := h.2.2.2.1 i v hi hv
/-- a variable of one slot is set -/
theorem mm_lv.set1 {P : mm_P} {y : Nat} {ls ls' : List Value} {lsR lsR' : Array Slot} {i : Nat} {v : Value} (h : mm_lv P y ls lsR) (hi : i < tb_nL y) (hc : v.category = 1) (hset : mm_set y ls i v = some ls')
    (hn : lv_has lsR' (tb_nL y) ((i, mm_rv P v) :: (mm_prs lsR).filter (fun q => !(q.1 == i) && !(q.1 + 1 == i && q.2.category == 2)))) : mm_lv P y ls' lsR' := by
  obtain ⟨h1, h2, h3, h4, h5⟩ := h
  obtain ⟨n1, n2, n3⟩ := hn
  have hls : ls' = ls.set i v := by
    unfold mm_set at hset
    split at hset
    · split at hset <;> first | exact (Option.some.inj hset).symm | cases hset
    · exact (Option.some.inj hset).symm
  have hprev : ∀ w, ls[i - 1]? = some w → w.category = 2 → ¬ i = 0 → False := by
    intro w hx hc2 h0
    have hm := h5 _ _ hx hc2
    unfold mm_set at hset
    rw [if_pos (by
      rw [List.any_eq_true]
      exact ⟨i - 1, hm, by simp; omega⟩)] at hset
    rw [hx] at hset
    cases w <;> simp [Value.category] at hc2 hset
  subst hls
  refine ⟨n1, by rw [List.length_set]; exact h2, n2, fun j w hj hw => ?_, fun j w hj hw => ?_⟩
  · rw [List.getElem?_set] at hj
    by_cases e : i = j
    · subst e
      rw [if_pos rfl] at hj
      split at hj
      · cases hj
        exact n3 _ List.mem_cons_self
      · cases hj
    · rw [if_neg e] at hj
      refine n3 (j, mm_rv P w) (List.mem_cons_of_mem _ (List.mem_filter.mpr ⟨mm_prs_mem.mpr (h4 j w hj hw), ?_⟩))
      simp only [Bool.and_eq_true, Bool.not_eq_true', beq_eq_false_iff_ne, ne_eq, Bool.and_eq_false_iff]
      refine ⟨fun q => e q.symm, ?_⟩
      by_cases e2 : j + 1 = i
      · right
        intro hcat
        exact hprev w (by rw [show i - 1 = j by omega]; exact hj) (mm_rv_cat2 hcat) (by omega)
      · left; exact e2
  · rw [List.getElem?_set] at hj
    by_cases e : i = j
    · subst e
      rw [if_pos rfl] at hj
      split at hj
      · cases hj
        omega
      · cases hj
    · rw [if_neg e] at hj
      exact h5 j w hj hw
/-- a variable of two slots is set -/
theorem mm_lv.set2 {P : mm_P} {y : Nat} {ls ls' : List Value} {lsR lsR' : Array Slot} {i : Nat} {x : Int64} (h : mm_lv P y ls lsR) (hi : i + 1 < tb_nL y) (hset : mm_set2 y ls i (.long x) = some ls')
    (hn : lv_has lsR' (tb_nL y) ((i, .long x) :: (mm_prs lsR).filter (fun q => !(q.1 == i) && (!(q.1 == i + 1) && !(q.1 + 1 == i && q.2.category == 2))))) : mm_lv P y ls' lsR' := by
  obtain ⟨h1, h2, h3, h4, h5⟩ := h
  obtain ⟨n1, n2, n3⟩ := hn
  unfold mm_set2 at hset
  split at hset
  case isFalse => cases hset
  case isTrue hin =>
  split at hset
  case isTrue => cases hset
  case isFalse hno =>
  have hls : ls' = (ls.set i (.long x)).set (i + 1) mm_j := (Option.some.inj hset).symm
  subst hls
  refine ⟨n1, by rw [List.length_set, List.length_set]; exact h2, n2, fun j w hj hw => ?_, fun j w hj hw => ?_⟩
  · rw [List.getElem?_set, List.getElem?_set] at hj
    by_cases e1 : i + 1 = j
    · rw [if_pos e1] at hj
      split at hj
      · cases hj; exact absurd rfl hw
      · cases hj
    · rw [if_neg e1] at hj
      by_cases e : i = j
      · subst e
        rw [if_pos rfl] at hj
        split at hj
        · cases hj
          exact n3 _ List.mem_cons_self
        · cases hj
      · rw [if_neg e] at hj
        refine n3 (j, mm_rv P w) (List.mem_cons_of_mem _ (List.mem_filter.mpr ⟨mm_prs_mem.mpr (h4 j w hj hw), ?_⟩))
        simp only [Bool.and_eq_true, Bool.not_eq_true', beq_eq_false_iff_ne, ne_eq, Bool.and_eq_false_iff]
        refine ⟨fun q => e q.symm, fun q => e1 q.symm, ?_⟩
        by_cases e2 : j + 1 = i
        · right
          intro hcat
          have hm := h5 j w hj (mm_rv_cat2 hcat)
          exact hno (by rw [List.any_eq_true]; exact ⟨j, hm, by simp; omega⟩)
        · left; exact e2
  · rw [List.getElem?_set, List.getElem?_set] at hj
    by_cases e1 : i + 1 = j
    · rw [if_pos e1] at hj
      split at hj
      · cases hj; simp [mm_j, Value.category] at hw
      · cases hj
    · rw [if_neg e1] at hj
      by_cases e : i = j
      · subst e
        rw [List.any_eq_true] at hin
        obtain ⟨z, hz, hz2⟩ := hin
        simp at hz2
        subst hz2
        exact hz
      · rw [if_neg e] at hj
        exact h5 j w hj hw
end
section
/-! WHAT THE TABLES SAY AT A STATE; A METHOD'S CONTEXT -/
def mm_gw : Cond → Bool
  | .fieldLinkNest .. => true
  | .methodLinkNest .. => true
  | w => goodWord w
def mm_E1 (s : State) : Prop := ∀ w ∈ lw_tbl, mm_gw w = true → ∀ a : Array Value, w.before a s = true
def mm_E2 (P : mm_P) (s : State) : Prop := ∀ (k : Nat) (q : vw_C), tb_cl[k]? = some q → u_Kn s q.1 q.2.1 q.2.2 (P.2.2.1.1 k) (P.2.2.1.2 k)
/-- arrays of objects: kinds 23, 24, 25 over the classes 5, 6, 4 -/
def mm_E3 (P : mm_P) (s : State) : Prop := (va_AO "LoadRoom$Piece" s ∧ va_RA s (P.2.2.2 23) (.object "LoadRoom$Piece")) ∧ (va_AO "LoadRoom$Placed" s ∧ va_RA s (P.2.2.2 24) (.object "LoadRoom$Placed")) ∧ (va_AO "LoadRoom$Floor" s ∧ va_RA s (P.2.2.2 25) (.object "LoadRoom$Floor"))
def mm_E4 (P : mm_P) (s : State) : Prop := ∀ (q : Nat) (z : (Nat × Nat) × String × Nat), tb_str[q]? = some z → vk_R (tb_nm z.1.1) z.1.2 z.2.1 (P.2.1 q) s
def mm_xn (i : Nat) : String := ((tb_kin.lookup (30 + i)).getD ("", 0)).1
def mm_E5 (P : mm_P) (s : State) : Prop := ∀ i, i < 4 → ClassAt s (mm_xn i) (P.2.2.2 (30 + i))
def mm_E6 (s : State) : Prop := ∀ i j, i < 4 → j < 4 → i ≠ j → va_Nc (mm_xn i) (mm_xn j) s
def mm_Ev (P : mm_P) (s : State) : Prop := mm_E1 s ∧ mm_E2 P s ∧ mm_E3 P s ∧ mm_E4 P s ∧ mm_E5 P s ∧ mm_E6 s
theorem mm_E1.moved {s U : State} (hW : s.WarmedH U.vm) (h : mm_E1 s) : mm_E1 U := by
  intro w hw hg a
  cases w with
  | fieldLinkNest c i r n d host => exact va_Nw.use rfl (va_Nw.warmF hW (h _ hw rfl #[]))
  | methodLinkNest c i x host => exact va_Nw.use rfl (va_Nw.warmM hW (h _ hw rfl #[]))
  | _ => exact word_at hW (good_of_word hg) (h _ hw hg #[])
theorem mm_E3.moved {P : mm_P} {s U : State} (hvm : s.vm.Alike U.vm) (h : mm_E3 P s) : mm_E3 P U :=
  ⟨⟨h.1.1.moved hvm, h.1.2.moved hvm⟩, ⟨h.2.1.1.moved hvm, h.2.1.2.moved hvm⟩, ⟨h.2.2.1.moved hvm, h.2.2.2.moved hvm⟩⟩
theorem mm_Ev.moved {P : mm_P} {s U : State} (hW : s.WarmedH U.vm) (h : mm_Ev P s) : mm_Ev P U :=
  ⟨h.1.moved hW, fun k q hq => u_Kn_moved hW.alike (h.2.1 k q hq), h.2.2.1.moved hW.alike, fun q z hz => (h.2.2.2.1 q z hz).warm hW, fun i hi => classAt_moved hW.alike (h.2.2.2.2.1 i hi), fun i j hi hj hne => (h.2.2.2.2.2 i j hi hj hne).moved hW.alike⟩
/-- a method's context: y on the way, d frames left -/
def mm_Cx (P : mm_P) (y d : Nat) (p : Program) (R : Room) (s : State) (m : MethodId) (meth : Method) (c : Code) : Prop :=
  (p.tables.exec = Jvm.exec ∧ c.code = tb_byt.getD y ⟨#[]⟩ ∧ c.maxLocals = tb_nL y ∧ meth.sig.returnType = tb_rty y) ∧ (s.vm.findClass (tb_nm (tb_cls y)) = some m.cls ∧ meth.locks = false ∧ meth.name = (tb_y y).name ∧ mm_Ev P s) ∧ (y < 149 ∧ c.exceptionTable.toList.map (fun h => (h.startPc, h.endPc, h.handlerPc, h.catchType)) = (tb_han.getD y []).map (fun q => (q.1, q.2.1, q.2.2.1, q.2.2.2.2))) ∧ d + 8 ≤ R.frames ∧ 60 * (d + 8) ≤ R.locals
/-! tables, looked up -/
theorem mm_lookup {α β : Type} [BEq α] [LawfulBEq α] {l : List (α × β)} {k : α} {v : β} (h : l.lookup k = some v) : (k, v) ∈ l := by
  induction l with
  | nil => cases h
  | cons q t ih =>
    obtain ⟨a, b⟩ := q
    rw [List.lookup_cons] at h
    split at h
    · rename_i e
      have e' := eq_of_beq e
      cases h
      subst e'
      exact List.mem_cons_self
    · exact List.mem_cons_of_mem _ (ih h)
/-- the chunks of instructions that there are -/
def tb_pairs : List (Nat × Nat) := [(0, 0), (0, 1), (0, 2), (0, 3), (0, 4), (0, 5), (0, 6), (0, 7), (0, 8), (0, 9), (0, 10), (0, 11), (0, 12), (0, 13), (1, 0), (1, 1), (2, 0), (3, 0), (4, 0), (5, 0), (6, 0), (7, 0), (8, 0), (8, 1), (9, 0), (10, 0), (11, 0), (12, 0), (13, 0), (14, 0), (15, 0), (16, 0), (17, 0), (18, 0), (19, 0), (20, 0), (21, 0), (22, 0), (23, 0), (23, 1), (24, 0), (25, 0), (26, 0), (27, 0), (28, 0), (29, 0), (30, 0), (31, 0), (31, 1), (32, 0), (33, 0), (34, 0), (35, 0), (36, 0), (37, 0), (38, 0), (39, 0), (40, 0), (41, 0), (42, 0), (43, 0), (44, 0), (45, 0), (46, 0), (47, 0), (48, 0), (49, 0), (50, 0), (51, 0), (52, 0), (52, 1), (52, 2), (53, 0), (54, 0), (55, 0), (56, 0), (57, 0), (58, 0), (58, 1), (58, 2), (59, 0), (60, 0), (60, 1), (61, 0), (61, 1), (62, 0), (63, 0), (64, 0), (64, 1), (64, 2), (65, 0), (66, 0), (67, 0), (68, 0), (69, 0), (70, 0), (70, 1), (71, 0), (72, 0), (72, 1), (73, 0), (74, 0), (74, 1), (75, 0), (76, 0), (77, 0), (78, 0), (78, 1), (79, 0), (79, 1), (80, 0), (81, 0), (81, 1), (82, 0), (82, 1), (82, 2), (83, 0), (84, 0), (85, 0), (85, 1), (86, 0), (87, 0), (88, 0), (89, 0), (89, 1), (90, 0), (91, 0), (92, 0), (93, 0), (93, 1), (94, 0), (95, 0), (96, 0), (97, 0), (98, 0), (98, 1), (99, 0), (100, 0), (101, 0), (102, 0), (102, 1), (103, 0), (104, 0), (104, 1), (105, 0), (106, 0), (107, 0), (108, 0), (108, 1), (108, 2), (108, 3), (109, 0), (110, 0), (111, 0), (111, 1), (111, 2), (112, 0), (113, 0), (114, 0), (115, 0), (116, 0), (117, 0), (118, 0), (119, 0), (120, 0), (120, 1), (121, 0), (122, 0), (122, 1), (123, 0), (123, 1), (124, 0), (124, 1), (125, 0), (126, 0), (126, 1), (126, 2), (126, 3), (127, 0), (127, 1), (127, 2), (127, 3), (128, 0), (128, 1), (128, 2), (128, 3), (128, 4), (129, 0), (130, 0), (131, 0), (132, 0), (132, 1), (132, 2), (132, 3), (132, 4), (132, 5), (132, 6), (133, 0), (133, 1), (134, 0), (134, 1), (135, 0), (135, 1), (135, 2), (135, 3), (136, 0), (136, 1), (136, 2), (136, 3), (137, 0), (137, 1), (137, 2), (138, 0), (139, 0), (140, 0), (140, 1), (141, 0), (142, 0), (143, 0), (143, 1), (143, 2), (144, 0), (145, 0), (145, 1), (146, 0), (146, 1), (146, 2), (146, 3), (146, 4), (147, 0), (148, 0)]
theorem tb_okD_in : ∀ q ∈ tb_pairs, tb_okD q.1 q.2 = true := tb_okD_all
def tb_len : List Nat := [14, 2, 1, 1, 1, 1, 1, 1, 2, 1, 1, 1, 1, 1, 1, 1, 1, 1, 1, 1, 1, 1, 1, 2, 1, 1, 1, 1, 1, 1, 1, 2, 1, 1, 1, 1, 1, 1, 1, 1, 1, 1, 1, 1, 1, 1, 1, 1, 1, 1, 1, 1, 3, 1, 1, 1, 1, 1, 3, 1, 2, 2, 1, 1, 3, 1, 1, 1, 1, 1, 2, 1, 2, 1, 2, 1, 1, 1, 2, 2, 1, 2, 3, 1, 1, 2, 1, 1, 1, 2, 1, 1, 1, 2, 1, 1, 1, 1, 2, 1, 1, 1, 2, 1, 2, 1, 1, 1, 4, 1, 1, 3, 1, 1, 1, 1, 1, 1, 1, 1, 2, 1, 2, 2, 2, 1, 4, 4, 5, 1, 1, 1, 7, 2, 2, 4, 4, 3, 1, 1, 2, 1, 1, 3, 1, 2, 5, 1, 1]
theorem tb_len_ok : tb_ins.map List.length = tb_len := by decide +kernel
theorem tb_pairs_ok : (List.range 149).all (fun y => (List.range (tb_len.getD y 0)).all (fun c => tb_pairs.contains (y, c))) = true := by decide +kernel
theorem tb_pairs_out {y c : Nat} (h : (y, c) ∉ tb_pairs) : (tb_ins.getD y []).getD c [] = [] := by
  have hlen : (tb_ins.getD y []).length = tb_len.getD y 0 := by
    rw [← tb_len_ok, List.getD_eq_getElem?_getD, List.getD_eq_getElem?_getD, List.getElem?_map]
    cases tb_ins[y]? <;> rfl
  by_cases hc : c < (tb_ins.getD y []).length
  · exfalso
    rw [hlen] at hc
    have hy : y < 149 := by
      rcases Nat.lt_or_ge y 149 with q | q
      · exact q
      · rw [List.getD_eq_getElem?_getD, List.getElem?_eq_none (by simpa [tb_len] using q)] at hc
        exact absurd hc (Nat.not_lt_zero _)
    have h1 := List.all_eq_true.mp tb_pairs_ok y (List.mem_range.mpr hy)
    have h2 := List.all_eq_true.mp h1 c (List.mem_range.mpr hc)
    exact h (by simpa using h2)
  · rw [List.getD_eq_getElem?_getD, List.getElem?_eq_none (by omega)]
    rfl
theorem mm_dec {y pc : Nat} {i : ClassFile.Instr} {len : Nat} (hc : tb_cod y pc = some (i, len)) : decode (tb_byt.getD y ⟨#[]⟩) pc = .ok (i, len) ∧ tb_okT pc i = true := by
  have hm := mm_lookup hc
  have hok : tb_okD y (pc / 64) = true := by
    by_cases hin : (y, pc / 64) ∈ tb_pairs
    · exact tb_okD_in _ hin
    · exact absurd hm (by
        have : (tb_ins.getD y []).getD (pc / 64) [] = [] := tb_pairs_out hin
        rw [this]
        exact List.not_mem_nil)
  unfold tb_okD at hok
  have h2 := List.all_eq_true.mp hok _ hm
  simp only [Bool.and_eq_true, decide_eq_true_eq] at h2
  refine ⟨?_, h2.2⟩
  have h3 := h2.1
  cases hd : decode (tb_byt.getD y ⟨#[]⟩) pc with
  | error e => rw [hd] at h3; cases h3
  | ok q => rw [hd] at h3; cases h3; rfl
end
section
/-! WHAT THE MODEL DOES, THE JVM DOES: an instruction at a time -/
/-- from this state of the model on, the JVM comes to Q -/
def mm_G (P : mm_P) (y n0 z0 : Nat) (p : Program) (l : Launch) (e : Env) (R : Room) (s : State) (m : MethodId) (args : Array Value) (below : List Frame) (meth : Method) (c : Code) (Q : State → Prop) (pc : Nat) (ls st : List Value) (h : mm_H) : Prop :=
  ∀ (H : Heap) (locs : List Loc) (cells slots : Nat) (lsR : Array Slot), mm_rep P s h H → mm_lv P y ls lsR → (∀ q ∈ locs, P.1.2 ≤ q.base) → mm_n h = n0 + cells → mm_z h = z0 + slots → W p l e R s m args below meth c H locs cells slots Q (F0 m pc lsR (st.map (mm_rv P)))
theorem mm_tgt {pc : Nat} {off : Int} (h : 0 ≤ (pc : Int) + off) : (pc : Int) + off = (mm_t pc off : Int) := by
  unfold mm_t
  omega
section
variable {P : mm_P} {y d n0 z0 : Nat} {p : Program} {l : Launch} {e : Env} {R : Room} {s : State} {m : MethodId} {args : Array Value} {below : List Frame} {meth : Method} {c : Code} {Q : State → Prop} {pc k : Nat} {ls ls' st r : List Value} {h : mm_H} {x x2 : Int32} {w w2 : Int64} {a b : Nat} {n off : Int}

theorem sg_iconst (C : mm_Cx P y d p R s m meth c) (hc : tb_cod y pc = some (.iconst n, 1)) (K : mm_G P y n0 z0 p l e R s m args below meth c Q (pc + 1) ls (.int (Int32.ofInt n) :: st) h) : mm_G P y n0 z0 p l e R s m args below meth c Q pc ls st h := by
  intro H locs cells slots lsR hr hv hl hn hz
  exact lv_iconst C.1.1 C.1.2.1 (mm_dec hc).1 rfl (K H locs cells slots lsR hr hv hl hn hz)
theorem sg_bipush (C : mm_Cx P y d p R s m meth c) (hc : tb_cod y pc = some (.bipush n, 2)) (K : mm_G P y n0 z0 p l e R s m args below meth c Q (pc + 2) ls (.int (Int8.ofInt n).toInt32 :: st) h) : mm_G P y n0 z0 p l e R s m args below meth c Q pc ls st h := by
  intro H locs cells slots lsR hr hv hl hn hz
  exact lv_bipush C.1.1 C.1.2.1 (mm_dec hc).1 rfl (K H locs cells slots lsR hr hv hl hn hz)
theorem sg_sipush (C : mm_Cx P y d p R s m meth c) (hc : tb_cod y pc = some (.sipush n, 3)) (K : mm_G P y n0 z0 p l e R s m args below meth c Q (pc + 3) ls (.int (Int16.ofInt n).toInt32 :: st) h) : mm_G P y n0 z0 p l e R s m args below meth c Q pc ls st h := by
  intro H locs cells slots lsR hr hv hl hn hz
  exact lv_sipush C.1.1 C.1.2.1 (mm_dec hc).1 rfl (K H locs cells slots lsR hr hv hl hn hz)
theorem sg_lconst {f2 : Fin 2} (C : mm_Cx P y d p R s m meth c) (hc : tb_cod y pc = some (.lconst f2, 1)) (K : mm_G P y n0 z0 p l e R s m args below meth c Q (pc + 1) ls (.long (Int64.ofNat (f2 : Nat)) :: st) h) : mm_G P y n0 z0 p l e R s m args below meth c Q pc ls st h := by
  intro H locs cells slots lsR hr hv hl hn hz
  exact lv_lconst C.1.1 C.1.2.1 (mm_dec hc).1 rfl (K H locs cells slots lsR hr hv hl hn hz)
theorem sg_null (C : mm_Cx P y d p R s m meth c) (hc : tb_cod y pc = some (.aconst_null, 1)) (K : mm_G P y n0 z0 p l e R s m args below meth c Q (pc + 1) ls (.null :: st) h) : mm_G P y n0 z0 p l e R s m args below meth c Q pc ls st h := by
  intro H locs cells slots lsR hr hv hl hn hz
  exact lv_null C.1.1 C.1.2.1 (mm_dec hc).1 (K H locs cells slots lsR hr hv hl hn hz)
theorem sg_iload (C : mm_Cx P y d p R s m meth c) (hc : tb_cod y pc = some (.iload k, 2)) (hk : ls[k]? = some (.int x)) (K : mm_G P y n0 z0 p l e R s m args below meth c Q (pc + 2) ls (.int x :: st) h) : mm_G P y n0 z0 p l e R s m args below meth c Q pc ls st h := by
  intro H locs cells slots lsR hr hv hl hn hz
  exact lv_iload C.1.1 C.1.2.1 (mm_dec hc).1 (hv.at hk (by simp [mm_j])) (K H locs cells slots lsR hr hv hl hn hz)
theorem sg_lload (C : mm_Cx P y d p R s m meth c) (hc : tb_cod y pc = some (.lload k, 2)) (hk : ls[k]? = some (.long w)) (K : mm_G P y n0 z0 p l e R s m args below meth c Q (pc + 2) ls (.long w :: st) h) : mm_G P y n0 z0 p l e R s m args below meth c Q pc ls st h := by
  intro H locs cells slots lsR hr hv hl hn hz
  exact lv_lload C.1.1 C.1.2.1 (mm_dec hc).1 (hv.at hk (by simp [mm_j])) (K H locs cells slots lsR hr hv hl hn hz)
theorem sg_aload (C : mm_Cx P y d p R s m meth c) (hc : tb_cod y pc = some (.aload k, 2)) (hk : ls[k]? = some (.ref a)) (K : mm_G P y n0 z0 p l e R s m args below meth c Q (pc + 2) ls (.ref a :: st) h) : mm_G P y n0 z0 p l e R s m args below meth c Q pc ls st h := by
  intro H locs cells slots lsR hr hv hl hn hz
  exact lv_aload C.1.1 C.1.2.1 (mm_dec hc).1 (hv.at hk (by simp [mm_j])) (K H locs cells slots lsR hr hv hl hn hz)
theorem sg_aloadN (C : mm_Cx P y d p R s m meth c) (hc : tb_cod y pc = some (.aload k, 2)) (hk : ls[k]? = some (.null)) (K : mm_G P y n0 z0 p l e R s m args below meth c Q (pc + 2) ls (.null :: st) h) : mm_G P y n0 z0 p l e R s m args below meth c Q pc ls st h := by
  intro H locs cells slots lsR hr hv hl hn hz
  exact lv_aloadN C.1.1 C.1.2.1 (mm_dec hc).1 (hv.at hk (by simp [mm_j])) (K H locs cells slots lsR hr hv hl hn hz)
theorem sg_iload_n {f4 : Fin 4} (C : mm_Cx P y d p R s m meth c) (hc : tb_cod y pc = some (.iload_n f4, 1)) (hk : ls[(f4 : Nat)]? = some (.int x)) (K : mm_G P y n0 z0 p l e R s m args below meth c Q (pc + 1) ls (.int x :: st) h) : mm_G P y n0 z0 p l e R s m args below meth c Q pc ls st h := by
  intro H locs cells slots lsR hr hv hl hn hz
  exact lv_iload_n C.1.1 C.1.2.1 (mm_dec hc).1 rfl (hv.at hk (by simp [mm_j])) (K H locs cells slots lsR hr hv hl hn hz)
theorem sg_lload_n {f4 : Fin 4} (C : mm_Cx P y d p R s m meth c) (hc : tb_cod y pc = some (.lload_n f4, 1)) (hk : ls[(f4 : Nat)]? = some (.long w)) (K : mm_G P y n0 z0 p l e R s m args below meth c Q (pc + 1) ls (.long w :: st) h) : mm_G P y n0 z0 p l e R s m args below meth c Q pc ls st h := by
  intro H locs cells slots lsR hr hv hl hn hz
  exact lv_lload_n C.1.1 C.1.2.1 (mm_dec hc).1 rfl (hv.at hk (by simp [mm_j])) (K H locs cells slots lsR hr hv hl hn hz)
theorem sg_aload_n {f4 : Fin 4} (C : mm_Cx P y d p R s m meth c) (hc : tb_cod y pc = some (.aload_n f4, 1)) (hk : ls[(f4 : Nat)]? = some (.ref a)) (K : mm_G P y n0 z0 p l e R s m args below meth c Q (pc + 1) ls (.ref a :: st) h) : mm_G P y n0 z0 p l e R s m args below meth c Q pc ls st h := by
  intro H locs cells slots lsR hr hv hl hn hz
  exact lv_aload_n C.1.1 C.1.2.1 (mm_dec hc).1 rfl (hv.at hk (by simp [mm_j])) (K H locs cells slots lsR hr hv hl hn hz)
theorem sg_aload_nN {f4 : Fin 4} (C : mm_Cx P y d p R s m meth c) (hc : tb_cod y pc = some (.aload_n f4, 1)) (hk : ls[(f4 : Nat)]? = some (.null)) (K : mm_G P y n0 z0 p l e R s m args below meth c Q (pc + 1) ls (.null :: st) h) : mm_G P y n0 z0 p l e R s m args below meth c Q pc ls st h := by
  intro H locs cells slots lsR hr hv hl hn hz
  exact lv_aload_nN C.1.1 C.1.2.1 (mm_dec hc).1 rfl (hv.at hk (by simp [mm_j])) (K H locs cells slots lsR hr hv hl hn hz)
theorem sg_istore (C : mm_Cx P y d p R s m meth c) (hc : tb_cod y pc = some (.istore k, 2)) (hb : k < tb_nL y) (hk : mm_set y ls k (.int x) = some ls') (K : mm_G P y n0 z0 p l e R s m args below meth c Q (pc + 2) ls' r h) : mm_G P y n0 z0 p l e R s m args below meth c Q pc ls (.int x :: r) h := by
  intro H locs cells slots lsR hr hv hl hn hz
  refine lv_istore C.1.1 C.1.2.1 (mm_dec hc).1 (mm_prs_has hv.1 hv.2.2.1) hb rfl (fun lsR2 hl2 => ?_)
  exact K H locs cells slots lsR2 hr (hv.set1 hb rfl hk hl2) hl hn hz
theorem sg_astore (C : mm_Cx P y d p R s m meth c) (hc : tb_cod y pc = some (.astore k, 2)) (hb : k < tb_nL y) (hk : mm_set y ls k (.ref a) = some ls') (K : mm_G P y n0 z0 p l e R s m args below meth c Q (pc + 2) ls' r h) : mm_G P y n0 z0 p l e R s m args below meth c Q pc ls (.ref a :: r) h := by
  intro H locs cells slots lsR hr hv hl hn hz
  refine lv_astore C.1.1 C.1.2.1 (mm_dec hc).1 (mm_prs_has hv.1 hv.2.2.1) hb rfl (fun lsR2 hl2 => ?_)
  exact K H locs cells slots lsR2 hr (hv.set1 hb rfl hk hl2) hl hn hz
theorem sg_astoreN (C : mm_Cx P y d p R s m meth c) (hc : tb_cod y pc = some (.astore k, 2)) (hb : k < tb_nL y) (hk : mm_set y ls k (.null) = some ls') (K : mm_G P y n0 z0 p l e R s m args below meth c Q (pc + 2) ls' r h) : mm_G P y n0 z0 p l e R s m args below meth c Q pc ls (.null :: r) h := by
  intro H locs cells slots lsR hr hv hl hn hz
  refine lv_astoreN C.1.1 C.1.2.1 (mm_dec hc).1 (mm_prs_has hv.1 hv.2.2.1) hb rfl (fun lsR2 hl2 => ?_)
  exact K H locs cells slots lsR2 hr (hv.set1 hb rfl hk hl2) hl hn hz
theorem sg_lstore (C : mm_Cx P y d p R s m meth c) (hc : tb_cod y pc = some (.lstore k, 2)) (hb : k + 1 < tb_nL y) (hk : mm_set2 y ls k (.long w) = some ls') (K : mm_G P y n0 z0 p l e R s m args below meth c Q (pc + 2) ls' r h) : mm_G P y n0 z0 p l e R s m args below meth c Q pc ls (.long w :: r) h := by
  intro H locs cells slots lsR hr hv hl hn hz
  refine lv_lstore C.1.1 C.1.2.1 (mm_dec hc).1 (mm_prs_has hv.1 hv.2.2.1) hb rfl (fun lsR2 hl2 => ?_)
  exact K H locs cells slots lsR2 hr (hv.set2 hb hk hl2) hl hn hz
theorem sg_istore_n {f4 : Fin 4} (C : mm_Cx P y d p R s m meth c) (hc : tb_cod y pc = some (.istore_n f4, 1)) (hb : (f4 : Nat) < tb_nL y) (hk : mm_set y ls f4 (.int x) = some ls') (K : mm_G P y n0 z0 p l e R s m args below meth c Q (pc + 1) ls' r h) : mm_G P y n0 z0 p l e R s m args below meth c Q pc ls (.int x :: r) h := by
  intro H locs cells slots lsR hr hv hl hn hz
  refine lv_istore_n C.1.1 C.1.2.1 (mm_dec hc).1 rfl (mm_prs_has hv.1 hv.2.2.1) hb rfl (fun lsR2 hl2 => ?_)
  exact K H locs cells slots lsR2 hr (hv.set1 hb rfl hk hl2) hl hn hz
theorem sg_astore_n {f4 : Fin 4} (C : mm_Cx P y d p R s m meth c) (hc : tb_cod y pc = some (.astore_n f4, 1)) (hb : (f4 : Nat) < tb_nL y) (hk : mm_set y ls f4 (.ref a) = some ls') (K : mm_G P y n0 z0 p l e R s m args below meth c Q (pc + 1) ls' r h) : mm_G P y n0 z0 p l e R s m args below meth c Q pc ls (.ref a :: r) h := by
  intro H locs cells slots lsR hr hv hl hn hz
  refine lv_astore_n C.1.1 C.1.2.1 (mm_dec hc).1 rfl (mm_prs_has hv.1 hv.2.2.1) hb rfl (fun lsR2 hl2 => ?_)
  exact K H locs cells slots lsR2 hr (hv.set1 hb rfl hk hl2) hl hn hz
theorem sg_astore_nN {f4 : Fin 4} (C : mm_Cx P y d p R s m meth c) (hc : tb_cod y pc = some (.astore_n f4, 1)) (hb : (f4 : Nat) < tb_nL y) (hk : mm_set y ls f4 (.null) = some ls') (K : mm_G P y n0 z0 p l e R s m args below meth c Q (pc + 1) ls' r h) : mm_G P y n0 z0 p l e R s m args below meth c Q pc ls (.null :: r) h := by
  intro H locs cells slots lsR hr hv hl hn hz
  refine lv_astore_nN C.1.1 C.1.2.1 (mm_dec hc).1 rfl (mm_prs_has hv.1 hv.2.2.1) hb rfl (fun lsR2 hl2 => ?_)
  exact K H locs cells slots lsR2 hr (hv.set1 hb rfl hk hl2) hl hn hz
theorem sg_lstore_n {f4 : Fin 4} (C : mm_Cx P y d p R s m meth c) (hc : tb_cod y pc = some (.lstore_n f4, 1)) (hb : (f4 : Nat) + 1 < tb_nL y) (hk : mm_set2 y ls f4 (.long w) = some ls') (K : mm_G P y n0 z0 p l e R s m args below meth c Q (pc + 1) ls' r h) : mm_G P y n0 z0 p l e R s m args below meth c Q pc ls (.long w :: r) h := by
  intro H locs cells slots lsR hr hv hl hn hz
  refine lv_lstore_n C.1.1 C.1.2.1 (mm_dec hc).1 rfl (mm_prs_has hv.1 hv.2.2.1) hb rfl (fun lsR2 hl2 => ?_)
  exact K H locs cells slots lsR2 hr (hv.set2 hb hk hl2) hl hn hz
theorem sg_iinc (C : mm_Cx P y d p R s m meth c) (hc : tb_cod y pc = some (.iinc k n, 3)) (hb : k < tb_nL y) (hx : ls[k]? = some (.int x)) (hk : mm_set y ls k (.int (x + Int32.ofInt n)) = some ls') (K : mm_G P y n0 z0 p l e R s m args below meth c Q (pc + 3) ls' st h) : mm_G P y n0 z0 p l e R s m args below meth c Q pc ls st h := by
  intro H locs cells slots lsR hr hv hl hn hz
  have hat := hv.at hx (by simp [mm_j])
  obtain ⟨j, hj⟩ := List.getElem?_of_mem (mm_prs_mem.mpr hat)
  refine lv_iinc C.1.1 C.1.2.1 (mm_dec hc).1 (mm_prs_has hv.1 hv.2.2.1) hj rfl hb rfl (fun lsR2 hl2 => ?_)
  exact K H locs cells slots lsR2 hr (hv.set1 hb rfl hk hl2) hl hn hz
theorem sg_iadd (C : mm_Cx P y d p R s m meth c) (hc : tb_cod y pc = some (.iadd, 1)) (K : mm_G P y n0 z0 p l e R s m args below meth c Q (pc + 1) ls (.int (x + x2) :: r) h) : mm_G P y n0 z0 p l e R s m args below meth c Q pc ls (.int x2 :: .int x :: r) h := by
  intro H locs cells slots lsR hr hv hl hn hz
  exact lv_iadd C.1.1 C.1.2.1 (mm_dec hc).1 (K H locs cells slots lsR hr hv hl hn hz)
theorem sg_isub (C : mm_Cx P y d p R s m meth c) (hc : tb_cod y pc = some (.isub, 1)) (K : mm_G P y n0 z0 p l e R s m args below meth c Q (pc + 1) ls (.int (x - x2) :: r) h) : mm_G P y n0 z0 p l e R s m args below meth c Q pc ls (.int x2 :: .int x :: r) h := by
  intro H locs cells slots lsR hr hv hl hn hz
  exact lv_isub C.1.1 C.1.2.1 (mm_dec hc).1 (K H locs cells slots lsR hr hv hl hn hz)
theorem sg_imul (C : mm_Cx P y d p R s m meth c) (hc : tb_cod y pc = some (.imul, 1)) (K : mm_G P y n0 z0 p l e R s m args below meth c Q (pc + 1) ls (.int (x * x2) :: r) h) : mm_G P y n0 z0 p l e R s m args below meth c Q pc ls (.int x2 :: .int x :: r) h := by
  intro H locs cells slots lsR hr hv hl hn hz
  exact lv_imul C.1.1 C.1.2.1 (mm_dec hc).1 (K H locs cells slots lsR hr hv hl hn hz)
theorem sg_iand (C : mm_Cx P y d p R s m meth c) (hc : tb_cod y pc = some (.iand, 1)) (K : mm_G P y n0 z0 p l e R s m args below meth c Q (pc + 1) ls (.int (x &&& x2) :: r) h) : mm_G P y n0 z0 p l e R s m args below meth c Q pc ls (.int x2 :: .int x :: r) h := by
  intro H locs cells slots lsR hr hv hl hn hz
  exact lv_iand C.1.1 C.1.2.1 (mm_dec hc).1 (K H locs cells slots lsR hr hv hl hn hz)
theorem sg_ladd (C : mm_Cx P y d p R s m meth c) (hc : tb_cod y pc = some (.ladd, 1)) (K : mm_G P y n0 z0 p l e R s m args below meth c Q (pc + 1) ls (.long (w + w2) :: r) h) : mm_G P y n0 z0 p l e R s m args below meth c Q pc ls (.long w2 :: .long w :: r) h := by
  intro H locs cells slots lsR hr hv hl hn hz
  exact lv_ladd C.1.1 C.1.2.1 (mm_dec hc).1 (K H locs cells slots lsR hr hv hl hn hz)
theorem sg_lmul (C : mm_Cx P y d p R s m meth c) (hc : tb_cod y pc = some (.lmul, 1)) (K : mm_G P y n0 z0 p l e R s m args below meth c Q (pc + 1) ls (.long (w * w2) :: r) h) : mm_G P y n0 z0 p l e R s m args below meth c Q pc ls (.long w2 :: .long w :: r) h := by
  intro H locs cells slots lsR hr hv hl hn hz
  exact lv_lmul C.1.1 C.1.2.1 (mm_dec hc).1 (K H locs cells slots lsR hr hv hl hn hz)
theorem sg_idiv (C : mm_Cx P y d p R s m meth c) (hc : tb_cod y pc = some (.idiv, 1)) (hne : ¬ x2 = 0) (K : mm_G P y n0 z0 p l e R s m args below meth c Q (pc + 1) ls (.int (x / x2) :: r) h) : mm_G P y n0 z0 p l e R s m args below meth c Q pc ls (.int x2 :: .int x :: r) h := by
  intro H locs cells slots lsR hr hv hl hn hz
  exact lv_idiv C.1.1 C.1.2.1 (mm_dec hc).1 hne (K H locs cells slots lsR hr hv hl hn hz)
theorem sg_irem (C : mm_Cx P y d p R s m meth c) (hc : tb_cod y pc = some (.irem, 1)) (hne : ¬ x2 = 0) (K : mm_G P y n0 z0 p l e R s m args below meth c Q (pc + 1) ls (.int (x - x / x2 * x2) :: r) h) : mm_G P y n0 z0 p l e R s m args below meth c Q pc ls (.int x2 :: .int x :: r) h := by
  intro H locs cells slots lsR hr hv hl hn hz
  exact lv_irem C.1.1 C.1.2.1 (mm_dec hc).1 hne (K H locs cells slots lsR hr hv hl hn hz)
theorem sg_ldiv (C : mm_Cx P y d p R s m meth c) (hc : tb_cod y pc = some (.ldiv, 1)) (hne : ¬ w2 = 0) (K : mm_G P y n0 z0 p l e R s m args below meth c Q (pc + 1) ls (.long (w / w2) :: r) h) : mm_G P y n0 z0 p l e R s m args below meth c Q pc ls (.long w2 :: .long w :: r) h := by
  intro H locs cells slots lsR hr hv hl hn hz
  exact lv_ldiv C.1.1 C.1.2.1 (mm_dec hc).1 hne (K H locs cells slots lsR hr hv hl hn hz)
theorem sg_lrem (C : mm_Cx P y d p R s m meth c) (hc : tb_cod y pc = some (.lrem, 1)) (hne : ¬ w2 = 0) (K : mm_G P y n0 z0 p l e R s m args below meth c Q (pc + 1) ls (.long (w - w / w2 * w2) :: r) h) : mm_G P y n0 z0 p l e R s m args below meth c Q pc ls (.long w2 :: .long w :: r) h := by
  intro H locs cells slots lsR hr hv hl hn hz
  exact lv_lrem C.1.1 C.1.2.1 (mm_dec hc).1 hne (K H locs cells slots lsR hr hv hl hn hz)
theorem sg_lneg (C : mm_Cx P y d p R s m meth c) (hc : tb_cod y pc = some (.lneg, 1)) (K : mm_G P y n0 z0 p l e R s m args below meth c Q (pc + 1) ls (.long (-w) :: r) h) : mm_G P y n0 z0 p l e R s m args below meth c Q pc ls (.long w :: r) h := by
  intro H locs cells slots lsR hr hv hl hn hz
  exact lv_lneg C.1.1 C.1.2.1 (mm_dec hc).1 (K H locs cells slots lsR hr hv hl hn hz)
theorem sg_i2l (C : mm_Cx P y d p R s m meth c) (hc : tb_cod y pc = some (.i2l, 1)) (K : mm_G P y n0 z0 p l e R s m args below meth c Q (pc + 1) ls (.long x.toInt64 :: r) h) : mm_G P y n0 z0 p l e R s m args below meth c Q pc ls (.int x :: r) h := by
  intro H locs cells slots lsR hr hv hl hn hz
  exact lv_i2l C.1.1 C.1.2.1 (mm_dec hc).1 rfl (K H locs cells slots lsR hr hv hl hn hz)
theorem sg_l2i (C : mm_Cx P y d p R s m meth c) (hc : tb_cod y pc = some (.l2i, 1)) (K : mm_G P y n0 z0 p l e R s m args below meth c Q (pc + 1) ls (.int w.toInt32 :: r) h) : mm_G P y n0 z0 p l e R s m args below meth c Q pc ls (.long w :: r) h := by
  intro H locs cells slots lsR hr hv hl hn hz
  exact lv_l2i C.1.1 C.1.2.1 (mm_dec hc).1 rfl (K H locs cells slots lsR hr hv hl hn hz)
theorem sg_lcmp (C : mm_Cx P y d p R s m meth c) (hc : tb_cod y pc = some (.lcmp, 1)) (K : mm_G P y n0 z0 p l e R s m args below meth c Q (pc + 1) ls (.int (if w2 < w then 1 else if w = w2 then 0 else -1) :: r) h) : mm_G P y n0 z0 p l e R s m args below meth c Q pc ls (.long w2 :: .long w :: r) h := by
  intro H locs cells slots lsR hr hv hl hn hz
  exact W.lcmp C.1.1 C.1.2.1 (mm_dec hc).1 (K H locs cells slots lsR hr hv hl hn hz)
theorem sg_dupI (C : mm_Cx P y d p R s m meth c) (hc : tb_cod y pc = some (.dup, 1)) (K : mm_G P y n0 z0 p l e R s m args below meth c Q (pc + 1) ls (.int x :: .int x :: r) h) : mm_G P y n0 z0 p l e R s m args below meth c Q pc ls (.int x :: r) h := by
  intro H locs cells slots lsR hr hv hl hn hz
  exact lv_dup C.1.1 C.1.2.1 (mm_dec hc).1 rfl (K H locs cells slots lsR hr hv hl hn hz)
theorem sg_popI (C : mm_Cx P y d p R s m meth c) (hc : tb_cod y pc = some (.pop, 1)) (K : mm_G P y n0 z0 p l e R s m args below meth c Q (pc + 1) ls r h) : mm_G P y n0 z0 p l e R s m args below meth c Q pc ls (.int x :: r) h := by
  intro H locs cells slots lsR hr hv hl hn hz
  exact lv_pop C.1.1 C.1.2.1 (mm_dec hc).1 (by rfl) (K H locs cells slots lsR hr hv hl hn hz)
theorem sg_dupR (C : mm_Cx P y d p R s m meth c) (hc : tb_cod y pc = some (.dup, 1)) (K : mm_G P y n0 z0 p l e R s m args below meth c Q (pc + 1) ls (.ref a :: .ref a :: r) h) : mm_G P y n0 z0 p l e R s m args below meth c Q pc ls (.ref a :: r) h := by
  intro H locs cells slots lsR hr hv hl hn hz
  exact lv_dup C.1.1 C.1.2.1 (mm_dec hc).1 rfl (K H locs cells slots lsR hr hv hl hn hz)
theorem sg_popR (C : mm_Cx P y d p R s m meth c) (hc : tb_cod y pc = some (.pop, 1)) (K : mm_G P y n0 z0 p l e R s m args below meth c Q (pc + 1) ls r h) : mm_G P y n0 z0 p l e R s m args below meth c Q pc ls (.ref a :: r) h := by
  intro H locs cells slots lsR hr hv hl hn hz
  exact lv_pop C.1.1 C.1.2.1 (mm_dec hc).1 (by rfl) (K H locs cells slots lsR hr hv hl hn hz)
theorem sg_dup2 (C : mm_Cx P y d p R s m meth c) (hc : tb_cod y pc = some (.dup2, 1)) (K : mm_G P y n0 z0 p l e R s m args below meth c Q (pc + 1) ls (.int x :: .ref a :: .int x :: .ref a :: r) h) : mm_G P y n0 z0 p l e R s m args below meth c Q pc ls (.int x :: .ref a :: r) h := by
  intro H locs cells slots lsR hr hv hl hn hz
  exact lv_dup2_11 C.1.1 C.1.2.1 (mm_dec hc).1 rfl rfl (K H locs cells slots lsR hr hv hl hn hz)
theorem sg_if_eq (C : mm_Cx P y d p R s m meth c) (hc : tb_cod y pc = some (.ifCond .eq off, 3)) (K : mm_G P y n0 z0 p l e R s m args below meth c Q (if mm_c .eq x 0 = true then mm_t pc off else pc + 3) ls r h) : mm_G P y n0 z0 p l e R s m args below meth c Q pc ls (.int x :: r) h := by
  intro H locs cells slots lsR hr hv hl hn hz
  have hd := mm_dec hc
  refine lv_if_eq C.1.1 C.1.2.1 hd.1 (mm_tgt (by simpa [tb_okT] using hd.2)) (fun q => ?_) (fun q => ?_)
  · have K2 := K H locs cells slots lsR hr hv hl hn hz
    rw [if_pos (by simpa [mm_c] using q)] at K2
    exact K2
  · have K2 := K H locs cells slots lsR hr hv hl hn hz
    rw [if_neg (by simpa [mm_c] using q)] at K2
    exact K2
theorem sg_icmp_eq (C : mm_Cx P y d p R s m meth c) (hc : tb_cod y pc = some (.if_icmp .eq off, 3)) (K : mm_G P y n0 z0 p l e R s m args below meth c Q (if mm_c .eq x x2 = true then mm_t pc off else pc + 3) ls r h) : mm_G P y n0 z0 p l e R s m args below meth c Q pc ls (.int x2 :: .int x :: r) h := by
  intro H locs cells slots lsR hr hv hl hn hz
  have hd := mm_dec hc
  refine lv_icmp_eq C.1.1 C.1.2.1 hd.1 (mm_tgt (by simpa [tb_okT] using hd.2)) (fun q => ?_) (fun q => ?_)
  · have K2 := K H locs cells slots lsR hr hv hl hn hz
    rw [if_pos (by simpa [mm_c] using q)] at K2
    exact K2
  · have K2 := K H locs cells slots lsR hr hv hl hn hz
    rw [if_neg (by simpa [mm_c] using q)] at K2
    exact K2
theorem sg_if_ne (C : mm_Cx P y d p R s m meth c) (hc : tb_cod y pc = some (.ifCond .ne off, 3)) (K : mm_G P y n0 z0 p l e R s m args below meth c Q (if mm_c .ne x 0 = true then mm_t pc off else pc + 3) ls r h) : mm_G P y n0 z0 p l e R s m args below meth c Q pc ls (.int x :: r) h := by
  intro H locs cells slots lsR hr hv hl hn hz
  have hd := mm_dec hc
  refine lv_if_ne C.1.1 C.1.2.1 hd.1 (mm_tgt (by simpa [tb_okT] using hd.2)) (fun q => ?_) (fun q => ?_)
  · have K2 := K H locs cells slots lsR hr hv hl hn hz
    rw [if_pos (by simpa [mm_c] using q)] at K2
    exact K2
  · have K2 := K H locs cells slots lsR hr hv hl hn hz
    rw [if_neg (by simpa [mm_c] using q)] at K2
    exact K2
theorem sg_icmp_ne (C : mm_Cx P y d p R s m meth c) (hc : tb_cod y pc = some (.if_icmp .ne off, 3)) (K : mm_G P y n0 z0 p l e R s m args below meth c Q (if mm_c .ne x x2 = true then mm_t pc off else pc + 3) ls r h) : mm_G P y n0 z0 p l e R s m args below meth c Q pc ls (.int x2 :: .int x :: r) h := by
  intro H locs cells slots lsR hr hv hl hn hz
  have hd := mm_dec hc
  refine lv_icmp_ne C.1.1 C.1.2.1 hd.1 (mm_tgt (by simpa [tb_okT] using hd.2)) (fun q => ?_) (fun q => ?_)
  · have K2 := K H locs cells slots lsR hr hv hl hn hz
    rw [if_pos (by simpa [mm_c] using q)] at K2
    exact K2
  · have K2 := K H locs cells slots lsR hr hv hl hn hz
    rw [if_neg (by simpa [mm_c] using q)] at K2
    exact K2
theorem sg_if_lt (C : mm_Cx P y d p R s m meth c) (hc : tb_cod y pc = some (.ifCond .lt off, 3)) (K : mm_G P y n0 z0 p l e R s m args below meth c Q (if mm_c .lt x 0 = true then mm_t pc off else pc + 3) ls r h) : mm_G P y n0 z0 p l e R s m args below meth c Q pc ls (.int x :: r) h := by
  intro H locs cells slots lsR hr hv hl hn hz
  have hd := mm_dec hc
  refine lv_if_lt C.1.1 C.1.2.1 hd.1 (mm_tgt (by simpa [tb_okT] using hd.2)) (fun q => ?_) (fun q => ?_)
  · have K2 := K H locs cells slots lsR hr hv hl hn hz
    rw [if_pos (by simpa [mm_c] using q)] at K2
    exact K2
  · have K2 := K H locs cells slots lsR hr hv hl hn hz
    rw [if_neg (by simpa [mm_c] using q)] at K2
    exact K2
theorem sg_icmp_lt (C : mm_Cx P y d p R s m meth c) (hc : tb_cod y pc = some (.if_icmp .lt off, 3)) (K : mm_G P y n0 z0 p l e R s m args below meth c Q (if mm_c .lt x x2 = true then mm_t pc off else pc + 3) ls r h) : mm_G P y n0 z0 p l e R s m args below meth c Q pc ls (.int x2 :: .int x :: r) h := by
  intro H locs cells slots lsR hr hv hl hn hz
  have hd := mm_dec hc
  refine lv_icmp_lt C.1.1 C.1.2.1 hd.1 (mm_tgt (by simpa [tb_okT] using hd.2)) (fun q => ?_) (fun q => ?_)
  · have K2 := K H locs cells slots lsR hr hv hl hn hz
    rw [if_pos (by simpa [mm_c] using q)] at K2
    exact K2
  · have K2 := K H locs cells slots lsR hr hv hl hn hz
    rw [if_neg (by simpa [mm_c] using q)] at K2
    exact K2
theorem sg_if_ge (C : mm_Cx P y d p R s m meth c) (hc : tb_cod y pc = some (.ifCond .ge off, 3)) (K : mm_G P y n0 z0 p l e R s m args below meth c Q (if mm_c .ge x 0 = true then mm_t pc off else pc + 3) ls r h) : mm_G P y n0 z0 p l e R s m args below meth c Q pc ls (.int x :: r) h := by
  intro H locs cells slots lsR hr hv hl hn hz
  have hd := mm_dec hc
  refine lv_if_ge C.1.1 C.1.2.1 hd.1 (mm_tgt (by simpa [tb_okT] using hd.2)) (fun q => ?_) (fun q => ?_)
  · have K2 := K H locs cells slots lsR hr hv hl hn hz
    rw [if_pos (by simpa [mm_c] using q)] at K2
    exact K2
  · have K2 := K H locs cells slots lsR hr hv hl hn hz
    rw [if_neg (by simpa [mm_c] using q)] at K2
    exact K2
theorem sg_icmp_ge (C : mm_Cx P y d p R s m meth c) (hc : tb_cod y pc = some (.if_icmp .ge off, 3)) (K : mm_G P y n0 z0 p l e R s m args below meth c Q (if mm_c .ge x x2 = true then mm_t pc off else pc + 3) ls r h) : mm_G P y n0 z0 p l e R s m args below meth c Q pc ls (.int x2 :: .int x :: r) h := by
  intro H locs cells slots lsR hr hv hl hn hz
  have hd := mm_dec hc
  refine lv_icmp_ge C.1.1 C.1.2.1 hd.1 (mm_tgt (by simpa [tb_okT] using hd.2)) (fun q => ?_) (fun q => ?_)
  · have K2 := K H locs cells slots lsR hr hv hl hn hz
    rw [if_pos (by simpa [mm_c] using q)] at K2
    exact K2
  · have K2 := K H locs cells slots lsR hr hv hl hn hz
    rw [if_neg (by simpa [mm_c] using q)] at K2
    exact K2
theorem sg_if_gt (C : mm_Cx P y d p R s m meth c) (hc : tb_cod y pc = some (.ifCond .gt off, 3)) (K : mm_G P y n0 z0 p l e R s m args below meth c Q (if mm_c .gt x 0 = true then mm_t pc off else pc + 3) ls r h) : mm_G P y n0 z0 p l e R s m args below meth c Q pc ls (.int x :: r) h := by
  intro H locs cells slots lsR hr hv hl hn hz
  have hd := mm_dec hc
  refine lv_if_gt C.1.1 C.1.2.1 hd.1 (mm_tgt (by simpa [tb_okT] using hd.2)) (fun q => ?_) (fun q => ?_)
  · have K2 := K H locs cells slots lsR hr hv hl hn hz
    rw [if_pos (by simpa [mm_c] using q)] at K2
    exact K2
  · have K2 := K H locs cells slots lsR hr hv hl hn hz
    rw [if_neg (by simpa [mm_c] using q)] at K2
    exact K2
theorem sg_icmp_gt (C : mm_Cx P y d p R s m meth c) (hc : tb_cod y pc = some (.if_icmp .gt off, 3)) (K : mm_G P y n0 z0 p l e R s m args below meth c Q (if mm_c .gt x x2 = true then mm_t pc off else pc + 3) ls r h) : mm_G P y n0 z0 p l e R s m args below meth c Q pc ls (.int x2 :: .int x :: r) h := by
  intro H locs cells slots lsR hr hv hl hn hz
  have hd := mm_dec hc
  refine lv_icmp_gt C.1.1 C.1.2.1 hd.1 (mm_tgt (by simpa [tb_okT] using hd.2)) (fun q => ?_) (fun q => ?_)
  · have K2 := K H locs cells slots lsR hr hv hl hn hz
    rw [if_pos (by simpa [mm_c] using q)] at K2
    exact K2
  · have K2 := K H locs cells slots lsR hr hv hl hn hz
    rw [if_neg (by simpa [mm_c] using q)] at K2
    exact K2
theorem sg_if_le (C : mm_Cx P y d p R s m meth c) (hc : tb_cod y pc = some (.ifCond .le off, 3)) (K : mm_G P y n0 z0 p l e R s m args below meth c Q (if mm_c .le x 0 = true then mm_t pc off else pc + 3) ls r h) : mm_G P y n0 z0 p l e R s m args below meth c Q pc ls (.int x :: r) h := by
  intro H locs cells slots lsR hr hv hl hn hz
  have hd := mm_dec hc
  refine lv_if_le C.1.1 C.1.2.1 hd.1 (mm_tgt (by simpa [tb_okT] using hd.2)) (fun q => ?_) (fun q => ?_)
  · have K2 := K H locs cells slots lsR hr hv hl hn hz
    rw [if_pos (by simpa [mm_c] using q)] at K2
    exact K2
  · have K2 := K H locs cells slots lsR hr hv hl hn hz
    rw [if_neg (by simpa [mm_c] using q)] at K2
    exact K2
theorem sg_icmp_le (C : mm_Cx P y d p R s m meth c) (hc : tb_cod y pc = some (.if_icmp .le off, 3)) (K : mm_G P y n0 z0 p l e R s m args below meth c Q (if mm_c .le x x2 = true then mm_t pc off else pc + 3) ls r h) : mm_G P y n0 z0 p l e R s m args below meth c Q pc ls (.int x2 :: .int x :: r) h := by
  intro H locs cells slots lsR hr hv hl hn hz
  have hd := mm_dec hc
  refine lv_icmp_le C.1.1 C.1.2.1 hd.1 (mm_tgt (by simpa [tb_okT] using hd.2)) (fun q => ?_) (fun q => ?_)
  · have K2 := K H locs cells slots lsR hr hv hl hn hz
    rw [if_pos (by simpa [mm_c] using q)] at K2
    exact K2
  · have K2 := K H locs cells slots lsR hr hv hl hn hz
    rw [if_neg (by simpa [mm_c] using q)] at K2
    exact K2
theorem sg_ifnull (C : mm_Cx P y d p R s m meth c) (hc : tb_cod y pc = some (.ifnull off, 3)) (K : mm_G P y n0 z0 p l e R s m args below meth c Q (pc + 3) ls r h) : mm_G P y n0 z0 p l e R s m args below meth c Q pc ls (.ref a :: r) h := by
  intro H locs cells slots lsR hr hv hl hn hz
  exact lv_ifnull C.1.1 C.1.2.1 (mm_dec hc).1 (K H locs cells slots lsR hr hv hl hn hz)
theorem sg_ifnullN (C : mm_Cx P y d p R s m meth c) (hc : tb_cod y pc = some (.ifnull off, 3)) (K : mm_G P y n0 z0 p l e R s m args below meth c Q (mm_t pc off) ls r h) : mm_G P y n0 z0 p l e R s m args below meth c Q pc ls (.null :: r) h := by
  intro H locs cells slots lsR hr hv hl hn hz
  have hd := mm_dec hc
  exact lv_ifnullN C.1.1 C.1.2.1 hd.1 (mm_tgt (by simpa [tb_okT] using hd.2)) (K H locs cells slots lsR hr hv hl hn hz)
theorem sg_ifnonnull (C : mm_Cx P y d p R s m meth c) (hc : tb_cod y pc = some (.ifnonnull off, 3)) (K : mm_G P y n0 z0 p l e R s m args below meth c Q (mm_t pc off) ls r h) : mm_G P y n0 z0 p l e R s m args below meth c Q pc ls (.ref a :: r) h := by
  intro H locs cells slots lsR hr hv hl hn hz
  have hd := mm_dec hc
  exact lv_ifnonnull C.1.1 C.1.2.1 hd.1 (mm_tgt (by simpa [tb_okT] using hd.2)) (K H locs cells slots lsR hr hv hl hn hz)
theorem sg_ifnonnullN (C : mm_Cx P y d p R s m meth c) (hc : tb_cod y pc = some (.ifnonnull off, 3)) (K : mm_G P y n0 z0 p l e R s m args below meth c Q (pc + 3) ls r h) : mm_G P y n0 z0 p l e R s m args below meth c Q pc ls (.null :: r) h := by
  intro H locs cells slots lsR hr hv hl hn hz
  exact lv_ifnonnullN C.1.1 C.1.2.1 (mm_dec hc).1 (K H locs cells slots lsR hr hv hl hn hz)
theorem sg_goto (C : mm_Cx P y d p R s m meth c) (hc : tb_cod y pc = some (.goto off, 3)) (K : mm_G P y n0 z0 p l e R s m args below meth c Q (mm_t pc off) ls st h) : mm_G P y n0 z0 p l e R s m args below meth c Q pc ls st h := by
  intro H locs cells slots lsR hr hv hl hn hz
  have hd := mm_dec hc
  exact lv_goto C.1.1 C.1.2.1 hd.1 (mm_tgt (by simpa [tb_okT] using hd.2)) (K H locs cells slots lsR hr hv hl hn hz)
theorem sg_table {dd lo hi : Int} {offs : Array Int} {len : Nat} (C : mm_Cx P y d p R s m meth c) (hc : tb_cod y pc = some (.tableswitch dd lo hi offs, len)) (K : mm_G P y n0 z0 p l e R s m args below meth c Q (if x.toInt < lo ∨ hi < x.toInt then mm_t pc dd else mm_t pc (offs.toList.getD (x.toInt - lo).toNat 0)) ls r h) : mm_G P y n0 z0 p l e R s m args below meth c Q pc ls (.int x :: r) h := by
  intro H locs cells slots lsR hr hv hl hn hz
  have hd := mm_dec hc
  have hok := hd.2
  simp only [tb_okT, Bool.and_eq_true, decide_eq_true_eq] at hok
  have K2 := K H locs cells slots lsR hr hv hl hn hz
  by_cases hx : x.toInt < lo ∨ hi < x.toInt
  · rw [if_pos hx] at K2
    exact lv_tableOut C.1.1 C.1.2.1 hd.1 hx (mm_tgt hok.1) K2
  · rw [if_neg hx] at K2
    have hlt : (x.toInt - lo).toNat < offs.toList.length := by omega
    have hget : offs.toList[(x.toInt - lo).toNat]? = some (offs.toList.getD (x.toInt - lo).toNat 0) := by
      rw [List.getD_eq_getElem?_getD, List.getElem?_eq_getElem hlt]; rfl
    have hall := List.all_eq_true.mp hok.2.1 _ (List.mem_of_getElem? hget)
    exact lv_tableIn C.1.1 C.1.2.1 hd.1 (fun q => hx (Or.inl q)) (fun q => hx (Or.inr q)) (by rw [← Array.getElem?_toList]; exact hget) (mm_tgt (by simpa using hall)) K2
end
end
section
/-! FIELDS -/
theorem tb_cl_at : ∀ kd, kd < 11 → tb_cl[kd]? = some (tb_nm kd, tb_u kd, mm_fn kd) := by
  intro kd h
  rcases (show kd = 0 ∨ kd = 1 ∨ kd = 2 ∨ kd = 3 ∨ kd = 4 ∨ kd = 5 ∨ kd = 6 ∨ kd = 7 ∨ kd = 8 ∨ kd = 9 ∨ kd = 10 by omega) with rfl | rfl | rfl | rfl | rfl | rfl | rfl | rfl | rfl | rfl | rfl <;> rfl
theorem mm_fl_spec {y k kd p ty : Nat} (hf : tb_fl y k = some (kd, p, ty)) : ∃ nest : Bool, (if nest = true then .fieldLinkNest (tb_nm (tb_cls y)) k (tb_nm kd) (tb_f kd p).2.1 (tb_f kd p).2.2.1 "LoadRoom" else .fieldLink (tb_nm (tb_cls y)) k (tb_nm kd) (tb_f kd p).2.1 (tb_f kd p).2.2.1 : Cond) ∈ lw_tbl ∧ p < mm_fn kd ∧ kd < 11 ∧ mm_fty kd p = ty ∧ (tb_f kd p).1 = tb_nm kd ∧ ((tb_cls y, k), (kd, p, ty)) ∈ tb_fld.map (fun q => (q.1, q.2.1)) := by
  unfold tb_fl at hf
  cases hl : tb_fld.lookup (tb_cls y, k) with
  | none => rw [hl] at hf; cases hf
  | some q =>
    rw [hl] at hf
    obtain ⟨q1, wi, nest⟩ := q
    simp only [Option.map_some, Option.some.injEq] at hf
    subst hf
    have hm := mm_lookup hl
    have hok := List.all_eq_true.mp tb_okF_all _ hm
    simp only [tb_okF, Bool.and_eq_true, decide_eq_true_eq] at hok
    obtain ⟨o1, o2, o3, o4, o5, o6⟩ := hok
    exact ⟨nest, List.mem_of_getElem? o1, o2, o3, o5, o6, List.mem_map.mpr ⟨_, hm, rfl⟩⟩
theorem mm_E1.hts {s : State} (E : mm_E1 s) (a : Array Value) : ∀ w ∈ lw_tbl.filter mm_gw, w.before a s = true := fun w hw => E w (List.mem_filter.mp hw).1 (List.mem_filter.mp hw).2 a
theorem mm_lays {kd : Nat} (hkd : kd < 11) : ∀ w ∈ u_ws (tb_nm kd) (tb_u kd) (mm_fn kd), w ∈ lw_tbl.filter mm_gw := by
  intro w hw
  obtain ⟨p, hp, rfl⟩ := List.mem_map.mp hw
  have h1 := List.all_eq_true.mp tb_okL_all kd (List.mem_range.mpr hkd)
  unfold tb_okL at h1
  have h2 := List.all_eq_true.mp h1 p hp
  rw [decide_eq_true_eq] at h2
  refine List.mem_filter.mpr ⟨List.mem_of_getElem? h2, ?_⟩
  unfold u_lay
  split <;> rfl
def tb_ft (kd p : Nat) : FieldType := (parseFieldDescriptor (tb_f kd p).2.2.1).getD .int
def tb_okP (kd p : Nat) : Bool := decide (parseFieldDescriptor (tb_f kd p).2.2.1 = some (tb_ft kd p)) && (match mm_fty kd p with
  | 0 => decide (tb_ft kd p = .int)
  | 1 => decide (tb_ft kd p = .long)
  | 2 => (tb_ft kd p).isReference
  | _ => decide (mm_fty kd p = 3 ∧ tb_ft kd p = .boolean)) && ((List.range (mm_fn kd)).all fun j => decide (j = p ∨ (tb_f kd j).2.1 ≠ (tb_f kd p).2.1)) && decide ((tb_f kd p).1 = tb_nm kd)
theorem tb_okP_all : (List.range 11).all (fun kd => (List.range (mm_fn kd)).all (fun p => tb_okP kd p)) = true := by decide +kernel
theorem mm_ft {kd p : Nat} (hkd : kd < 11) (hp : p < mm_fn kd) : parseFieldDescriptor (tb_u kd p).2.2.1 = some (tb_ft kd p) ∧ (mm_fty kd p = 0 → tb_ft kd p = .int) ∧ (mm_fty kd p = 1 → tb_ft kd p = .long) ∧ (mm_fty kd p = 2 → (tb_ft kd p).isReference = true) ∧ (mm_fty kd p = 3 → tb_ft kd p = .boolean) ∧ (∀ j, j < mm_fn kd → j ≠ p → (tb_u kd j).2.1 ≠ (tb_u kd p).2.1) ∧ (tb_u kd p).1 = tb_nm kd := by
  have h1 := List.all_eq_true.mp tb_okP_all kd (List.mem_range.mpr hkd)
  have h2 := List.all_eq_true.mp h1 p (List.mem_range.mpr hp)
  unfold tb_okP at h2
  simp only [Bool.and_eq_true, decide_eq_true_eq] at h2
  obtain ⟨⟨⟨a1, a2⟩, a3⟩, a4⟩ := h2
  refine ⟨a1, fun e => ?_, fun e => ?_, fun e => ?_, fun e => ?_, fun j hj hne => ?_, a4⟩
  · rw [e] at a2; simpa using a2
  · rw [e] at a2; simpa using a2
  · rw [e] at a2; simpa using a2
  · rw [e] at a2
    simp only [decide_eq_true_eq] at a2
    exact a2.2
  · have h3 := List.all_eq_true.mp a3 j (List.mem_range.mpr hj)
    simp only [decide_eq_true_eq] at h3
    rcases h3 with h3 | h3
    · exact absurd h3 hne
    · exact h3
theorem mm_field {P : mm_P} {s : State} (E : mm_Ev P s) {kd p : Nat} (hkd : kd < 11) (hp : p < mm_fn kd) : ∃ (cf : ClassId) (kf : Class) (fi : Nat) (f : Field) (kC : Class), s.fieldFound? (tb_nm kd) (tb_f kd p).2.1 (tb_f kd p).2.2.1 = some (cf, kf, fi, f) ∧ f.slot = P.2.2.1.2 kd p ∧ f.isStatic = false ∧ s.vm.findClass (tb_nm kd) = some (P.2.2.1.1 kd) ∧ s.vm.classes[P.2.2.1.1 kd]? = some kC ∧ kC.kind = .ordinary := by
  obtain ⟨hS, hfc, kC, hkC, hkind⟩ := E.2.1 kd _ (tb_cl_at kd hkd)
  obtain ⟨cf, kf, fi, f, hi, hsl⟩ := hS p hp
  have hst := (u_facts (args := #[]) hfc hkC (u_lays (E.1.hts #[]) (mm_lays hkd) hp) hi).1
  rw [(mm_ft hkd hp).2.2.2.2.2.2] at hi
  exact ⟨cf, kf, fi, f, kC, hi, hsl, hst, hfc, hkC, hkind⟩
theorem mm_apart {P : mm_P} {s : State} (E : mm_Ev P s) {kd : Nat} (hkd : kd < 11) : ∀ x y, x < mm_fn kd → y < mm_fn kd → x ≠ y → P.2.2.1.2 kd x ≠ P.2.2.1.2 kd y := by
  intro x y hx hy hne
  obtain ⟨hS, -⟩ := E.2.1 kd _ (tb_cl_at kd hkd)
  obtain ⟨_, _, _, fa, hia, ea⟩ := hS x hx
  obtain ⟨_, _, _, fb, hib, eb⟩ := hS y hy
  rw [← ea, ← eb]
  refine u_apart (args := #[]) (u_lays (E.1.hts #[]) (mm_lays hkd) hx) (u_lays (E.1.hts #[]) (mm_lays hkd) hy) hia hib ?_
  rw [(State.fieldFound?_type hia (mm_ft hkd hx).1).1, (State.fieldFound?_type hib (mm_ft hkd hy).1).1]
  exact (mm_ft hkd hy).2.2.2.2.2.1 x hx hne
theorem mm_narrow {t : FieldType} (h : t.isReference = true) (v : Value) (hv : v = .null ∨ ∃ a, v = .ref a) : narrow t v = v ∧ fits t v = true := by
  rcases hv with rfl | ⟨a, rfl⟩ <;> cases t <;> simp [FieldType.isReference] at h <;> exact ⟨rfl, rfl⟩
section
variable {P : mm_P} {y d n0 z0 : Nat} {p : Program} {l : Launch} {e : Env} {R : Room} {s : State} {m : MethodId} {args : Array Value} {below : List Frame} {meth : Method} {c : Code} {Q : State → Prop} {pc k : Nat} {ls ls' st r : List Value} {h : mm_H} {x x2 : Int32} {w w2 : Int64} {a b : Nat} {n off : Int}
theorem sg_get {kd q ty : Nat} {v : Value} (C : mm_Cx P y d p R s m meth c) (hc : tb_cod y pc = some (.getfield k, 3)) (hf : tb_fl y k = some (kd, q, ty)) (hk : (mm_s h a).1 = kd) (hv : mm_rv P v = mm_fv P h a ty q)
    (K : mm_G P y n0 z0 p l e R s m args below meth c Q (pc + 3) ls (v :: r) h) : mm_G P y n0 z0 p l e R s m args below meth c Q pc ls (.ref a :: r) h := by
  intro H locs cells slots lsR hr hlv hl hn hz
  obtain ⟨nest, hw, hq, hkd, hty, -, -⟩ := mm_fl_spec hf
  obtain ⟨ha, ha0, cell, e1, e2, e3, e4⟩ := hr.obj hk hkd
  obtain ⟨cf, kf, fi, f, kC, hi, hsl, hst, -, -, -⟩ := mm_field C.2.1.2.2.2 hkd hq
  have K2 := K H locs cells slots lsR hr hlv hl hn hz
  have hslot : cell.slots[f.slot]? = some (mm_rv P v) := by rw [hsl, e4 q hq, hty, hv]
  have hkn : cell.vm ≠ .unknown := by rw [e3]; exact fun h => by cases h
  cases nest with
  | true =>
    have hlink := C.2.1.2.2.2.1 _ hw rfl args
    exact va_Wgetf C.1.1 C.1.2.1 C.2.1.1 hlink hi hst e1 hkn hslot rfl rfl (mm_dec hc).1 K2
  | false =>
    have hlink := C.2.1.2.2.2.1 _ hw rfl args
    exact W.getf C.1.1 C.1.2.1 C.2.1.1 hlink hi hst e1 hkn hslot rfl rfl (mm_dec hc).1 K2
end
end
section
/-! FIELDS, WRITTEN -/
/-- a final field is written by its own class's constructor alone -/
def tb_okW (y : Nat) (i : ClassFile.Instr) : Bool := match i with
  | .putfield k => match tb_fld.lookup (tb_cls y, k) with
    | some q => if (tb_u q.1.1 q.1.2.1).2.2.2 = true then (tb_y y).name == "<init>" && (tb_nm (tb_cls y) == tb_nm q.1.1 && !q.2.2) else true
    | none => true
  | _ => true
set_option maxRecDepth 100000 in
theorem tb_okW_all : (List.range 149).all (fun y => (tb_ins.getD y []).all (fun r => r.all (fun q => tb_okW y q.2.1))) = true := by decide +kernel
theorem mm_okW {y pc : Nat} {i : ClassFile.Instr} {len : Nat} (hy : y < 149) (hc : tb_cod y pc = some (i, len)) : tb_okW y i = true := by
  have h1 := List.all_eq_true.mp tb_okW_all y (List.mem_range.mpr hy)
  have hm := mm_lookup hc
  have hin : ∀ L : List (List (Nat × ClassFile.Instr × Nat)), (pc, i, len) ∈ L.getD (pc / 64) [] → L.getD (pc / 64) [] ∈ L := by
    intro L hm
    rw [List.getD_eq_getElem?_getD] at hm ⊢
    cases hq : L[pc / 64]? with
    | none => rw [hq] at hm; cases hm
    | some z => exact List.mem_of_getElem? hq
  exact List.all_eq_true.mp (List.all_eq_true.mp h1 _ (hin _ hm)) _ hm
theorem mm_fl_nest {y k kd p ty : Nat} (hf : tb_fl y k = some (kd, p, ty)) : ∃ (wi : Nat) (nest : Bool), tb_fld.lookup (tb_cls y, k) = some ((kd, p, ty), wi, nest) ∧ (if nest = true then .fieldLinkNest (tb_nm (tb_cls y)) k (tb_nm kd) (tb_f kd p).2.1 (tb_f kd p).2.2.1 "LoadRoom" else .fieldLink (tb_nm (tb_cls y)) k (tb_nm kd) (tb_f kd p).2.1 (tb_f kd p).2.2.1 : Cond) ∈ lw_tbl := by
  unfold tb_fl at hf
  cases hl : tb_fld.lookup (tb_cls y, k) with
  | none => rw [hl] at hf; cases hf
  | some q =>
    rw [hl] at hf
    obtain ⟨q1, wi, nest⟩ := q
    simp only [Option.map_some, Option.some.injEq] at hf
    subst hf
    have hok := List.all_eq_true.mp tb_okF_all _ (mm_lookup hl)
    simp only [tb_okF, Bool.and_eq_true, decide_eq_true_eq] at hok
    exact ⟨wi, nest, rfl, List.mem_of_getElem? hok.1⟩
section
variable {P : mm_P} {y d n0 z0 : Nat} {p : Program} {l : Launch} {e : Env} {R : Room} {s : State} {m : MethodId} {args : Array Value} {below : List Frame} {meth : Method} {c : Code} {Q : State → Prop} {pc k : Nat} {ls ls' st r : List Value} {h h' : mm_H} {x x2 : Int32} {w w2 : Int64} {a b : Nat} {n off : Int}
theorem sg_put {kd q ty : Nat} {v : Value} (C : mm_Cx P y d p R s m meth c) (hc : tb_cod y pc = some (.putfield k, 3)) (hf : tb_fl y k = some (kd, q, ty)) (hk : (mm_s h a).1 = kd)
    (hnf : narrow (tb_ft kd q) (mm_rv P v) = mm_rv P v ∧ fits (tb_ft kd q) (mm_rv P v) = true)
    (hs' : mm_s h' = mm_s h) (hn' : mm_n h' = mm_n h) (hz' : mm_z h' = mm_z h) (oi : ∀ b k, b ≠ a → mm_i h' b k = mm_i h b k) (ol : ∀ b k, b ≠ a → mm_l h' b k = mm_l h b k) (orr : ∀ b k, b ≠ a → mm_r h' b k = mm_r h b k)
    (hfv : ∀ j, j < mm_fn kd → mm_fv P h' a (mm_fty kd j) j = if j = q then mm_rv P v else mm_fv P h a (mm_fty kd j) j)
    (K : mm_G P y n0 z0 p l e R s m args below meth c Q (pc + 3) ls r h') : mm_G P y n0 z0 p l e R s m args below meth c Q pc ls (v :: .ref a :: r) h := by
  intro H locs cells slots lsR hr hlv hl hn hz
  obtain ⟨-, -, hq, hkd, hty, -, -⟩ := mm_fl_spec hf
  obtain ⟨wi, nest, hlk, hw⟩ := mm_fl_nest hf
  obtain ⟨ha, ha0, cell, e1, e2, e3, e4⟩ := hr.obj hk hkd
  have E := C.2.1.2.2.2
  obtain ⟨cf, kf, fi, f, kC, hi, hsl, hst, hfc, hkC, hkind⟩ := mm_field E hkd hq
  have hlt : f.slot < cell.slots.size := by rw [hsl]; exact k2_hasslot (e4 q hq)
  have hlink := E.1 _ hw (by cases nest <;> rfl) args
  have hdecl := (mm_ft hkd hq).2.2.2.2.2.2
  have hpd := (mm_ft hkd hq).1
  have hlay := E.1.hts args _ (mm_lays hkd _ (u_in_lay hq))
  have hiD : s.fieldFound? (tb_u kd q).1 (tb_u kd q).2.1 (tb_u kd q).2.2.1 = some (cf, kf, fi, f) := by rw [hdecl]; exact hi
  have hend : ∀ H' : Heap, H'[mm_ad P a]? = some (cell.setSlot f.slot (mm_rv P v)) → H'.size = H.size → (∀ z, z ≠ mm_ad P a → H'[z]? = H[z]?) →
      W p l e R s m args below meth c H' (locs ++ [⟨mm_ad P a, f.slot⟩]) cells slots Q (F0 m (pc + 3) lsR (r.map (mm_rv P))) := by
    intro H' g1 g2 g3
    refine K H' _ cells slots lsR (hr.upd ha g2 g3 hn' hs' oi ol orr ⟨_, g1, ?_, ?_⟩) hlv ?_ (by rw [hn']; exact hn) (by rw [hz']; exact hz)
    · show cell.vm ≠ .unknown
      rw [e3]; exact fun h => by cases h
    · rw [mm_cl, hs', hk]
      refine Or.inl ⟨hkd, e2, e3, fun j hj => ?_⟩
      rw [hsl, t_set e4 (mm_apart E hkd) hq (mm_rv P v) j hj, hfv j hj]
      rfl
    · intro z hz2
      rcases List.mem_append.mp hz2 with hz3 | hz3
      · exact hl z hz3
      · rw [List.mem_singleton] at hz3
        subst hz3
        exact mm_ad_base ha0
  have hokW := mm_okW C.2.2.1.1 hc
  unfold tb_okW at hokW
  simp only [hlk] at hokW
  by_cases hfin : (tb_u kd q).2.2.2 = true
  · rw [if_pos hfin] at hokW
    simp only [Bool.and_eq_true, beq_iff_eq, Bool.not_eq_true'] at hokW
    obtain ⟨w1, w2, w3⟩ := hokW
    subst w3
    unfold u_lay at hlay
    rw [if_pos hfin] at hlay
    have hcf : m.cls = cf := by
      obtain ⟨_, _, c', _, _, _, -, -, hf', -, -, -, hown2, -⟩ := Cond.laysFinal_spec hlay
      have e5 : c' = cf := by have := hiD.symm.trans hf'; simp at this; exact this.1.symm
      rw [hdecl, ← w2] at hown2
      rw [← e5]; exact Option.some.inj (C.2.1.1.symm.trans hown2)
    have h6 := u_fits (args := args) hfc hkC hkind (Or.inr hlay) hiD hpd hnf.1 hnf.2
    exact W.putFinK C.1.1 C.1.2.1 C.2.1.1 hlink hi hst hcf (C.2.1.2.2.1.trans w1) (by rw [e2]; exact h6) e1 e3 hlt rfl rfl (mm_dec hc).1 hend
  · unfold u_lay at hlay
    rw [if_neg hfin] at hlay
    have h6 := u_store (args := args) hfc hkC hkind hlay hiD hpd hnf.1 hnf.2
    cases nest with
    | true => exact va_WputK C.1.1 C.1.2.1 (f := f) C.2.1.1 hlink hi hst (by rw [e2]; exact h6) e1 e3 hlt rfl rfl (mm_dec hc).1 hend
    | false => exact W.putK C.1.1 C.1.2.1 (f := f) ⟨C.2.1.1, hlink, ⟨_, _, _, hi⟩, hst⟩ (by rw [e2]; exact h6) e1 e3 hlt rfl rfl (mm_dec hc).1 hend
theorem sg_putI {kd q ty : Nat} (C : mm_Cx P y d p R s m meth c) (hc : tb_cod y pc = some (.putfield k, 3)) (hf : tb_fl y k = some (kd, q, ty)) (hk : (mm_s h a).1 = kd) (hty : ty = 0 ∨ ty = 3 ∧ (x = 0 ∨ x = 1))
    (K : mm_G P y n0 z0 p l e R s m args below meth c Q (pc + 3) ls r (mm_pi h a q x)) : mm_G P y n0 z0 p l e R s m args below meth c Q pc ls (.int x :: .ref a :: r) h := by
  obtain ⟨-, -, hq, hkd, ht, -, -⟩ := mm_fl_spec hf
  have hT := mm_ft hkd hq
  refine sg_put (v := .int x) (h' := mm_pi h a q x) C hc hf hk ?_ rfl rfl rfl (fun b k hb => by rw [mm_i_pi, if_neg (fun z => hb z.1)]) (fun _ _ _ => rfl) (fun _ _ _ => rfl) (fun j hj => ?_) K
  · show narrow _ (.int x) = .int x ∧ fits _ (.int x) = true
    rcases hty with h0 | ⟨h3, hx⟩
    · rw [hT.2.1 (by rw [ht]; exact h0)]; exact ⟨rfl, rfl⟩
    · rw [hT.2.2.2.2.1 (by rw [ht]; exact h3)]
      rcases hx with rfl | rfl <;> exact ⟨rfl, rfl⟩
  · simp only [mm_fv, mm_i_pi, mm_l_pi, mm_r_pi, true_and]
    by_cases hj2 : j = q
    · subst hj2
      rw [if_pos rfl, if_pos rfl, if_neg (by rw [ht]; omega), if_neg (by rw [ht]; omega)]
      rfl
    · simp only [if_neg hj2]
theorem sg_putL {kd q : Nat} (C : mm_Cx P y d p R s m meth c) (hc : tb_cod y pc = some (.putfield k, 3)) (hf : tb_fl y k = some (kd, q, 1)) (hk : (mm_s h a).1 = kd)
    (K : mm_G P y n0 z0 p l e R s m args below meth c Q (pc + 3) ls r (mm_pl h a q w)) : mm_G P y n0 z0 p l e R s m args below meth c Q pc ls (.long w :: .ref a :: r) h := by
  obtain ⟨-, -, hq, hkd, ht, -, -⟩ := mm_fl_spec hf
  have hT := mm_ft hkd hq
  refine sg_put (v := .long w) (h' := mm_pl h a q w) C hc hf hk ?_ rfl rfl rfl (fun _ _ _ => rfl) (fun b k hb => by rw [mm_l_pl, if_neg (fun z => hb z.1)]) (fun _ _ _ => rfl) (fun j hj => ?_) K
  · show narrow _ (.long w) = .long w ∧ fits _ (.long w) = true
    rw [hT.2.2.1 ht]; exact ⟨rfl, rfl⟩
  · simp only [mm_fv, mm_i_pl, mm_l_pl, mm_r_pl, true_and]
    by_cases hj2 : j = q
    · subst hj2
      rw [if_pos rfl, if_pos rfl, if_pos ht]
      rfl
    · simp only [if_neg hj2]
theorem sg_putR {kd q : Nat} (C : mm_Cx P y d p R s m meth c) (hc : tb_cod y pc = some (.putfield k, 3)) (hf : tb_fl y k = some (kd, q, 2)) (hk : (mm_s h a).1 = kd)
    (K : mm_G P y n0 z0 p l e R s m args below meth c Q (pc + 3) ls r (mm_pr h a q (some b))) : mm_G P y n0 z0 p l e R s m args below meth c Q pc ls (.ref b :: .ref a :: r) h := by
  obtain ⟨-, -, hq, hkd, ht, -, -⟩ := mm_fl_spec hf
  have hT := mm_ft hkd hq
  refine sg_put (v := .ref b) (h' := mm_pr h a q (some b)) C hc hf hk (mm_narrow (hT.2.2.2.1 ht) _ (Or.inr ⟨_, rfl⟩)) rfl rfl rfl (fun _ _ _ => rfl) (fun _ _ _ => rfl) (fun b k hb => by rw [mm_r_pr, if_neg (fun z => hb z.1)]) (fun j hj => ?_) K
  simp only [mm_fv, mm_i_pr, mm_l_pr, mm_r_pr, true_and]
  by_cases hj2 : j = q
  · subst hj2
    rw [if_pos rfl, if_pos rfl, if_neg (by rw [ht]; omega), if_pos ht]
    rfl
  · simp only [if_neg hj2]
end
end
section
/-! ARRAYS, NEW CELLS, CONSTANTS -/
theorem mm_in_of {j : Int32} {n : Nat} (h : mm_in j n = true) : ¬ (j < 0 ∨ n ≤ j.toNatClampNeg) := by
  simp only [mm_in, Bool.and_eq_true, decide_eq_true_eq] at h
  rintro (q | q)
  · rw [Int32.lt_iff_toInt_lt] at q
    have := Int32.le_iff_toInt_le.mp h.1
    omega
  · omega
theorem mm_in_lt {j : Int32} {n : Nat} (h : mm_in j n = true) : j.toNatClampNeg < n := by
  simp only [mm_in, Bool.and_eq_true, decide_eq_true_eq] at h
  exact h.2
theorem mm_rep.ast {P : mm_P} {s : State} {h h' : mm_H} {H H' : Heap} (hr : mm_rep P s h H) {a kd i : Nat} {cell : Cell} {v : Value} (hk : (mm_s h a).1 = kd) (h1 : 20 ≤ kd) (h2 : kd ≤ 26) (ha : a < mm_n h) (e2 : cell.vm ≠ .unknown) (e3 : cell.slots.size = (mm_s h a).2) (e4 : s.isArrayOf cell (mm_aty kd)) (e5 : 23 ≤ kd → cell.cls = P.2.2.2 kd) (e6 : ∀ j, j < (mm_s h a).2 → cell.slots[j]? = some (mm_av P h a kd j))
    (g1 : H'[mm_ad P a]? = some (cell.setSlot i v)) (g2 : H'.size = H.size) (g3 : ∀ z, z ≠ mm_ad P a → H'[z]? = H[z]?) (hs' : mm_s h' = mm_s h) (hn' : mm_n h' = mm_n h) (oi : ∀ b k, b ≠ a → mm_i h' b k = mm_i h b k) (ol : ∀ b k, b ≠ a → mm_l h' b k = mm_l h b k) (orr : ∀ b k, b ≠ a → mm_r h' b k = mm_r h b k)
    (hav : ∀ j, j < (mm_s h a).2 → mm_av P h' a kd j = if j = i then v else mm_av P h a kd j) : mm_rep P s h' H' := by
  refine hr.upd ha g2 g3 hn' hs' oi ol orr ⟨_, g1, e2, ?_⟩
  rw [mm_cl, hs', hk]
  refine Or.inr (Or.inl ⟨⟨h1, h2⟩, ?_, e4, e5, fun j hj => ?_⟩)
  · show (cell.slots.setIfInBounds i v).size = _
    rw [Array.size_setIfInBounds]; exact e3
  · show (cell.slots.setIfInBounds i v)[j]? = _
    rw [hav j hj, Array.getElem?_setIfInBounds]
    by_cases hj2 : i = j
    · subst hj2
      rw [if_pos rfl, if_pos rfl, if_pos (by rw [e3]; exact hj)]
    · rw [if_neg hj2, if_neg (fun z => hj2 z.symm)]
      exact e6 j hj
section
variable {P : mm_P} {y d n0 z0 : Nat} {p : Program} {l : Launch} {e : Env} {R : Room} {s : State} {m : MethodId} {args : Array Value} {below : List Frame} {meth : Method} {c : Code} {Q : State → Prop} {pc k : Nat} {ls ls' st r : List Value} {h h' : mm_H} {x x2 : Int32} {w w2 : Int64} {a b : Nat} {n off : Int}
theorem sg_iaload (C : mm_Cx P y d p R s m meth c) (hc : tb_cod y pc = some (.iaload, 1)) (hk : (mm_s h a).1 = 20) (hin : mm_in x (mm_s h a).2 = true)
    (K : mm_G P y n0 z0 p l e R s m args below meth c Q (pc + 1) ls (.int (mm_i h a x.toNatClampNeg) :: r) h) : mm_G P y n0 z0 p l e R s m args below meth c Q pc ls (.int x :: .ref a :: r) h := by
  intro H locs cells slots lsR hr hlv hl hn hz
  obtain ⟨ha, cell, e1, e2, e3, e4, e5, e6⟩ := hr.arr hk (by omega) (by omega)
  exact W.iald C.1.1 C.1.2.1 e1 e4 e2 (by rw [e3]; exact mm_in_of hin) (e6 _ (mm_in_lt hin)) rfl rfl (mm_dec hc).1 (K H locs cells slots lsR hr hlv hl hn hz)
theorem sg_laload (C : mm_Cx P y d p R s m meth c) (hc : tb_cod y pc = some (.laload, 1)) (hk : (mm_s h a).1 = 21) (hin : mm_in x (mm_s h a).2 = true)
    (K : mm_G P y n0 z0 p l e R s m args below meth c Q (pc + 1) ls (.long (mm_l h a x.toNatClampNeg) :: r) h) : mm_G P y n0 z0 p l e R s m args below meth c Q pc ls (.int x :: .ref a :: r) h := by
  intro H locs cells slots lsR hr hlv hl hn hz
  obtain ⟨ha, cell, e1, e2, e3, e4, e5, e6⟩ := hr.arr hk (by omega) (by omega)
  exact W.lald C.1.1 C.1.2.1 e1 e4 e2 (by rw [e3]; exact mm_in_of hin) (e6 _ (mm_in_lt hin)) rfl rfl (mm_dec hc).1 (K H locs cells slots lsR hr hlv hl hn hz)
theorem sg_baload (C : mm_Cx P y d p R s m meth c) (hc : tb_cod y pc = some (.baload, 1)) (hk : (mm_s h a).1 = 22) (hin : mm_in x (mm_s h a).2 = true)
    (K : mm_G P y n0 z0 p l e R s m args below meth c Q (pc + 1) ls (.int (mm_i h a x.toNatClampNeg) :: r) h) : mm_G P y n0 z0 p l e R s m args below meth c Q pc ls (.int x :: .ref a :: r) h := by
  intro H locs cells slots lsR hr hlv hl hn hz
  obtain ⟨ha, cell, e1, e2, e3, e4, e5, e6⟩ := hr.arr hk (by omega) (by omega)
  exact W.zald C.1.1 C.1.2.1 e1 e4 e2 (by rw [e3]; exact mm_in_of hin) (e6 _ (mm_in_lt hin)) rfl rfl (mm_dec hc).1 (K H locs cells slots lsR hr hlv hl hn hz)
theorem sg_aaload {kd : Nat} (C : mm_Cx P y d p R s m meth c) (hc : tb_cod y pc = some (.aaload, 1)) (hk : (mm_s h a).1 = kd) (h1 : 23 ≤ kd) (h2 : kd ≤ 26) (hin : mm_in x (mm_s h a).2 = true)
    (K : mm_G P y n0 z0 p l e R s m args below meth c Q (pc + 1) ls (mm_o (mm_r h a x.toNatClampNeg) :: r) h) : mm_G P y n0 z0 p l e R s m args below meth c Q pc ls (.int x :: .ref a :: r) h := by
  intro H locs cells slots lsR hr hlv hl hn hz
  obtain ⟨ha, cell, e1, e2, e3, e4, e5, e6⟩ := hr.arr hk (by omega) (by omega)
  have hav : mm_av P h a kd x.toNatClampNeg = mm_rv P (mm_o (mm_r h a x.toNatClampNeg)) := by unfold mm_av; rw [if_neg (by omega), if_pos h1]
  have href : (mm_aty kd).isReference = true := by
    rcases (show kd = 23 ∨ kd = 24 ∨ kd = 25 ∨ kd = 26 by omega) with rfl | rfl | rfl | rfl <;> rfl
  exact W.aald C.1.1 C.1.2.1 e1 e4 href e2 (by rw [e3]; exact mm_in_of hin) (by rw [e6 _ (mm_in_lt hin), hav]) rfl rfl (mm_dec hc).1 (K H locs cells slots lsR hr hlv hl hn hz)
theorem mm_locs {P : mm_P} {locs : List Loc} {a i : Nat} (hl : ∀ q ∈ locs, P.1.2 ≤ q.base) (ha : ¬ a = 0) : ∀ q ∈ locs ++ [⟨mm_ad P a, i⟩], P.1.2 ≤ q.base := by
  intro z hz2
  rcases List.mem_append.mp hz2 with hz3 | hz3
  · exact hl z hz3
  · rw [List.mem_singleton] at hz3
    subst hz3
    exact mm_ad_base ha
theorem sg_iastore (C : mm_Cx P y d p R s m meth c) (hc : tb_cod y pc = some (.iastore, 1)) (hk : (mm_s h a).1 = 20) (ha0 : ¬ a = 0) (hin : mm_in x (mm_s h a).2 = true)
    (K : mm_G P y n0 z0 p l e R s m args below meth c Q (pc + 1) ls r (mm_pi h a x.toNatClampNeg x2)) : mm_G P y n0 z0 p l e R s m args below meth c Q pc ls (.int x2 :: .int x :: .ref a :: r) h := by
  intro H locs cells slots lsR hr hlv hl hn hz
  obtain ⟨ha, cell, e1, e2, e3, e4, e5, e6⟩ := hr.arr hk (by omega) (by omega)
  refine W.iast C.1.1 C.1.2.1 e1 e4 e2 (by rw [e3]; exact mm_in_of hin) rfl rfl (mm_dec hc).1 (fun H' g1 g2 g3 => ?_)
  refine K H' _ cells slots lsR (hr.ast (v := .int x2) hk (by omega) (by omega) ha e2 e3 e4 e5 e6 g1 g2 g3 rfl rfl (fun b k hb => by rw [mm_i_pi, if_neg (fun z => hb z.1)]) (fun _ _ _ => rfl) (fun _ _ _ => rfl) (fun j hj => ?_)) hlv (mm_locs hl ha0) hn hz
  simp only [mm_av, mm_i_pi, true_and]
  by_cases hj2 : j = x.toNatClampNeg <;> simp [hj2]
theorem sg_lastore (C : mm_Cx P y d p R s m meth c) (hc : tb_cod y pc = some (.lastore, 1)) (hk : (mm_s h a).1 = 21) (hin : mm_in x (mm_s h a).2 = true)
    (K : mm_G P y n0 z0 p l e R s m args below meth c Q (pc + 1) ls r (mm_pl h a x.toNatClampNeg w)) : mm_G P y n0 z0 p l e R s m args below meth c Q pc ls (.long w :: .int x :: .ref a :: r) h := by
  intro H locs cells slots lsR hr hlv hl hn hz
  obtain ⟨ha, cell, e1, e2, e3, e4, e5, e6⟩ := hr.arr hk (by omega) (by omega)
  have ha0 : ¬ a = 0 := fun q => by subst q; have := hr.2.2.2.1; omega
  refine W.last C.1.1 C.1.2.1 e1 e4 e2 (by rw [e3]; exact mm_in_of hin) rfl rfl (mm_dec hc).1 (fun H' g1 g2 g3 => ?_)
  refine K H' _ cells slots lsR (hr.ast (v := .long w) hk (by omega) (by omega) ha e2 e3 e4 e5 e6 g1 g2 g3 rfl rfl (fun _ _ _ => rfl) (fun b k hb => by rw [mm_l_pl, if_neg (fun z => hb z.1)]) (fun _ _ _ => rfl) (fun j hj => ?_)) hlv (mm_locs hl ha0) hn hz
  simp only [mm_av, mm_l_pl, true_and]
  by_cases hj2 : j = x.toNatClampNeg <;> simp [hj2]
theorem sg_bastore (C : mm_Cx P y d p R s m meth c) (hc : tb_cod y pc = some (.bastore, 1)) (hk : (mm_s h a).1 = 22) (hx : x2 = 0 ∨ x2 = 1) (hin : mm_in x (mm_s h a).2 = true)
    (K : mm_G P y n0 z0 p l e R s m args below meth c Q (pc + 1) ls r (mm_pi h a x.toNatClampNeg x2)) : mm_G P y n0 z0 p l e R s m args below meth c Q pc ls (.int x2 :: .int x :: .ref a :: r) h := by
  intro H locs cells slots lsR hr hlv hl hn hz
  obtain ⟨ha, cell, e1, e2, e3, e4, e5, e6⟩ := hr.arr hk (by omega) (by omega)
  have ha0 : ¬ a = 0 := fun q => by subst q; have := hr.2.2.2.1; omega
  have hnar : narrow .boolean (.int x2) = .int x2 := by rcases hx with rfl | rfl <;> rfl
  refine W.zast C.1.1 C.1.2.1 e1 e4 e2 (by rw [e3]; exact mm_in_of hin) rfl rfl (mm_dec hc).1 (fun H' g1 g2 g3 => ?_)
  rw [hnar] at g1
  refine K H' _ cells slots lsR (hr.ast (v := .int x2) hk (by omega) (by omega) ha e2 e3 e4 e5 e6 g1 g2 g3 rfl rfl (fun b k hb => by rw [mm_i_pi, if_neg (fun z => hb z.1)]) (fun _ _ _ => rfl) (fun _ _ _ => rfl) (fun j hj => ?_)) hlv (mm_locs hl ha0) hn hz
  simp only [mm_av, mm_i_pi, true_and]
  by_cases hj2 : j = x.toNatClampNeg <;> simp [hj2]
theorem sg_aastore {kd kv : Nat} {C0 : String} (C : mm_Cx P y d p R s m meth c) (hc : tb_cod y pc = some (.aastore, 1)) (hk : (mm_s h a).1 = kd) (h1 : 23 ≤ kd) (h2 : kd ≤ 25) (hkv : (mm_s h b).1 = kv) (hkv11 : kv < 11) (hnm : tb_nm kv = C0) (hRA : va_RA s (P.2.2.2 kd) (.object C0)) (hin : mm_in x (mm_s h a).2 = true)
    (K : mm_G P y n0 z0 p l e R s m args below meth c Q (pc + 1) ls r (mm_pr h a x.toNatClampNeg (some b))) : mm_G P y n0 z0 p l e R s m args below meth c Q pc ls (.ref b :: .int x :: .ref a :: r) h := by
  intro H locs cells slots lsR hr hlv hl hn hz
  obtain ⟨ha, cell, e1, e2, e3, e4, e5, e6⟩ := hr.arr hk (by omega) (by omega)
  obtain ⟨hb, hb0, cv, v1, v2, v3, -⟩ := hr.obj hkv hkv11
  have ha0 : ¬ a = 0 := fun q => by subst q; have := hr.2.2.2.1; omega
  obtain ⟨kA, comp, a1, a2, a3, -⟩ := hRA
  obtain ⟨-, hfc, kC, hkC, hkind⟩ := C.2.1.2.2.2.2.1 kv _ (tb_cl_at kv hkv11)
  have hcomp : comp = P.2.2.1.1 kv := by
    rw [← hnm] at a3
    exact Option.some.inj (a3.symm.trans hfc)
  subst hcomp
  have hin' := mm_in_of hin
  refine W.aast C.1.1 C.1.2.1 e1 e4.1 e2 (by rw [e5 h1]; exact a1) a2 rfl hkC ⟨fun q => hin' (Or.inl q), by rw [e3]; exact mm_in_lt hin⟩ v1 (by rw [v3]; exact fun q z => by cases z) (by rw [v2]; exact hkC) (by rw [v2]; exact va_assign ⟨hfc, kC, hkC, hkind⟩) rfl rfl (mm_dec hc).1 (fun H' g1 g2 g3 => ?_)
  refine K H' _ cells slots lsR (hr.ast (v := .ref (mm_ad P b)) hk (by omega) (by omega) ha e2 e3 e4 e5 e6 g1 g2 g3 rfl rfl (fun _ _ _ => rfl) (fun _ _ _ => rfl) (fun b k hb => by rw [mm_r_pr, if_neg (fun z => hb z.1)]) (fun j hj => ?_)) hlv (mm_locs hl ha0) hn hz
  simp only [mm_av, mm_r_pr, true_and, if_neg (show ¬ kd = 21 by omega), if_pos h1]
  split <;> rfl
theorem sg_alen {kd : Nat} (C : mm_Cx P y d p R s m meth c) (hc : tb_cod y pc = some (.arraylength, 1)) (hk : (mm_s h a).1 = kd) (h1 : 20 ≤ kd) (h2 : kd ≤ 26)
    (K : mm_G P y n0 z0 p l e R s m args below meth c Q (pc + 1) ls (.int (nI (mm_s h a).2) :: r) h) : mm_G P y n0 z0 p l e R s m args below meth c Q pc ls (.ref a :: r) h := by
  intro H locs cells slots lsR hr hlv hl hn hz
  obtain ⟨ha, cell, e1, e2, e3, e4, e5, e6⟩ := hr.arr hk h1 h2
  exact W.alen C.1.1 C.1.2.1 e1 e4 (by rw [e3]; rfl) rfl rfl (mm_dec hc).1 (K H locs cells slots lsR hr hlv hl hn hz)
end
end
section
/-! NEW CELLS, CONSTANTS, OBJECT'S CONSTRUCTOR -/
def tb_okN (q : (Nat × Nat) × Int32 × Nat) : Bool := decide (lw_tbl[q.2.2]? = some (.constant (tb_nm q.1.1) q.1.2 q.2.1))
def tb_okO (q : (Nat × Nat) × Int64 × Nat) : Bool := decide (lw_tbl[q.2.2]? = some (.constantLong (tb_nm q.1.1) q.1.2 q.2.1))
set_option maxRecDepth 100000 in
theorem tb_okN_all : tb_int.all tb_okN = true := by decide +kernel
set_option maxRecDepth 100000 in
theorem tb_okO_all : tb_lon.all tb_okO = true := by decide +kernel
theorem mm_ci_spec {y k : Nat} {v : Int32} (h : tb_ci y k = some v) : Cond.constant (tb_nm (tb_cls y)) k v ∈ lw_tbl := by
  unfold tb_ci at h
  cases hl : tb_int.lookup (tb_cls y, k) with
  | none => rw [hl] at h; cases h
  | some q =>
    rw [hl] at h
    simp only [Option.map_some, Option.some.injEq] at h
    subst h
    have hok := List.all_eq_true.mp tb_okN_all _ (mm_lookup hl)
    simp only [tb_okN, decide_eq_true_eq] at hok
    exact List.mem_of_getElem? hok
theorem mm_cl2_spec {y k : Nat} {v : Int64} (h : tb_cl2 y k = some v) : Cond.constantLong (tb_nm (tb_cls y)) k v ∈ lw_tbl := by
  unfold tb_cl2 at h
  cases hl : tb_lon.lookup (tb_cls y, k) with
  | none => rw [hl] at h; cases h
  | some q =>
    rw [hl] at h
    simp only [Option.map_some, Option.some.injEq] at h
    subst h
    have hok := List.all_eq_true.mp tb_okO_all _ (mm_lookup hl)
    simp only [tb_okO, decide_eq_true_eq] at hok
    exact List.mem_of_getElem? hok
theorem mm_cs_spec {y k q : Nat} (h : tb_cs y k = some q) : ∃ z : (Nat × Nat) × String × Nat, tb_str[q]? = some z ∧ z.1 = (tb_cls y, k) ∧ q < 15 := by
  unfold tb_cs at h
  obtain ⟨hlt, hp, -⟩ := List.findIdx?_eq_some_iff_getElem.mp h
  exact ⟨tb_str[q], List.getElem?_eq_getElem hlt, by simpa using hp, hlt⟩
theorem mm_ck_spec {y k kd : Nat} (h : tb_ck y k = some kd) : (kd < 20 ∨ 30 ≤ kd) ∧ Cond.classLink (tb_nm (tb_cls y)) k ((tb_kin.lookup kd).getD ("", 0)).1 ∈ lw_tbl ∨ kd = 26 ∧ Cond.classLink (tb_nm (tb_cls y)) k "[[I" ∈ lw_tbl := by
  unfold tb_ck at h
  cases hl : tb_cla.lookup (tb_cls y, k) with
  | none => rw [hl] at h; cases h
  | some q =>
    rw [hl] at h
    simp only [Option.map_some, Option.some.injEq] at h
    subst h
    have hok := List.all_eq_true.mp tb_okK_all _ (mm_lookup hl)
    unfold tb_okK at hok
    split at hok
    · rename_i hh
      rw [decide_eq_true_eq] at hok
      exact Or.inl ⟨hh, List.mem_of_getElem? hok⟩
    · simp only [decide_eq_true_eq] at hok
      exact Or.inr ⟨hok.1, List.mem_of_getElem? hok.2⟩
/-- the kinds that objects are made of -/
def tb_ks : List Nat := [0, 1, 2, 3, 4, 5, 6, 7, 8, 9, 10, 30, 31, 32, 33]
def tb_okX (kd : Nat) : Bool := ((tb_kin.lookup kd).map (fun q => tb_okI (kd, q))).getD false && (((tb_slt.lookup kd).map (fun q => tb_okS (kd, q))).getD false && (decide (kd < 11) && decide (((tb_kin.lookup kd).getD ("", 0)).1 = tb_nm kd ∧ tb_sl kd = mm_fn kd) || decide (30 ≤ kd)))
theorem tb_okX_all : tb_ks.all tb_okX = true := by decide +kernel
theorem tb_ck_ks : tb_cla.all (fun q => decide (q.2.1 ∈ tb_ks ∨ q.2.1 = 26)) = true := by decide +kernel
theorem mm_kind {kd : Nat} (h : kd ∈ tb_ks) : Cond.initialized ((tb_kin.lookup kd).getD ("", 0)).1 ∈ lw_tbl ∧ Cond.instantiable ((tb_kin.lookup kd).getD ("", 0)).1 (tb_sl kd) ∈ lw_tbl ∧ (kd < 11 ∧ ((tb_kin.lookup kd).getD ("", 0)).1 = tb_nm kd ∧ tb_sl kd = mm_fn kd ∨ 30 ≤ kd) := by
  have h1 := List.all_eq_true.mp tb_okX_all kd h
  unfold tb_okX at h1
  simp only [Bool.and_eq_true, Bool.or_eq_true, decide_eq_true_eq] at h1
  obtain ⟨a1, a2, a3⟩ := h1
  refine ⟨?_, ?_, ?_⟩
  · cases hl : tb_kin.lookup kd with
    | none => rw [hl] at a1; cases a1
    | some q =>
      rw [hl] at a1
      simp only [Option.map_some, Option.getD_some, tb_okI, decide_eq_true_eq] at a1
      exact List.mem_of_getElem? a1
  · cases hl : tb_slt.lookup kd with
    | none => rw [hl] at a2; cases a2
    | some q =>
      rw [hl] at a2
      simp only [Option.map_some, Option.getD_some, tb_okS, decide_eq_true_eq] at a2
      have := List.mem_of_getElem? a2
      simpa [tb_sl, hl] using this
  · rcases a3 with a3 | a3
    · exact Or.inl ⟨a3.1, a3.2.1, a3.2.2⟩
    · exact Or.inr a3
theorem mm_ck_ks {y k kd : Nat} (h : tb_ck y k = some kd) : kd ∈ tb_ks ∨ kd = 26 := by
  unfold tb_ck at h
  cases hl : tb_cla.lookup (tb_cls y, k) with
  | none => rw [hl] at h; cases h
  | some q =>
    rw [hl] at h
    simp only [Option.map_some, Option.some.injEq] at h
    subst h
    have := List.all_eq_true.mp tb_ck_ks _ (mm_lookup hl)
    simpa using this
theorem mm_def {kd p : Nat} (hkd : kd < 11) (hp : p < mm_fn kd) (P : mm_P) (h : mm_H) (len sl : Nat) : defaultValue (tb_ft kd p) = mm_fv P (mm_nw h kd len sl) (mm_n h) (mm_fty kd p) p := by
  have hT := mm_ft hkd hp
  have h1 := List.all_eq_true.mp tb_okP_all kd (List.mem_range.mpr hkd)
  have h2 := List.all_eq_true.mp h1 p (List.mem_range.mpr hp)
  unfold tb_okP at h2
  simp only [Bool.and_eq_true, decide_eq_true_eq] at h2
  obtain ⟨⟨⟨-, a2⟩, -⟩, -⟩ := h2
  simp only [mm_fv, mm_i_nw, mm_l_nw, mm_r_nw, if_true]
  by_cases t1 : mm_fty kd p = 1
  · rw [hT.2.2.1 t1, if_pos t1]; rfl
  · rw [if_neg t1]
    by_cases t2 : mm_fty kd p = 2
    · rw [if_pos t2]
      have hr := hT.2.2.2.1 t2
      cases hft : tb_ft kd p <;> rw [hft] at hr <;> simp [FieldType.isReference] at hr <;> rfl
    · rw [if_neg t2]
      by_cases t0 : mm_fty kd p = 0
      · rw [hT.2.1 t0]; rfl
      · have t3 : mm_fty kd p = 3 := by
          generalize mm_fty kd p = z at a2 t0 t1 t2
          match z, a2, t0, t1, t2 with
          | 0, _, t0, _, _ => exact absurd rfl t0
          | 1, _, _, t1, _ => exact absurd rfl t1
          | 2, _, _, _, t2 => exact absurd rfl t2
          | z + 3, a2, _, _, _ => simp only [decide_eq_true_eq] at a2; exact a2.1
        rw [hT.2.2.2.2.1 t3]; rfl
section
variable {P : mm_P} {y d n0 z0 : Nat} {p : Program} {l : Launch} {e : Env} {R : Room} {s : State} {m : MethodId} {args : Array Value} {below : List Frame} {meth : Method} {c : Code} {Q : State → Prop} {pc k : Nat} {ls ls' st r : List Value} {h h' : mm_H} {x x2 : Int32} {w w2 : Int64} {a b : Nat} {n off : Int}
theorem sg_ldcI {v : Int32} (C : mm_Cx P y d p R s m meth c) (hc : tb_cod y pc = some (.ldc k, 2)) (hv : tb_ci y k = some v)
    (K : mm_G P y n0 z0 p l e R s m args below meth c Q (pc + 2) ls (.int v :: st) h) : mm_G P y n0 z0 p l e R s m args below meth c Q pc ls st h := by
  intro H locs cells slots lsR hr hlv hl hn hz
  exact W.ldc C.1.1 C.1.2.1 C.2.1.1 (C.2.1.2.2.2.1 _ (mm_ci_spec hv) rfl args) rfl (mm_dec hc).1 (K H locs cells slots lsR hr hlv hl hn hz)
theorem sg_ldc2 {v : Int64} (C : mm_Cx P y d p R s m meth c) (hc : tb_cod y pc = some (.ldc2_w k, 3)) (hv : tb_cl2 y k = some v)
    (K : mm_G P y n0 z0 p l e R s m args below meth c Q (pc + 3) ls (.long v :: st) h) : mm_G P y n0 z0 p l e R s m args below meth c Q pc ls st h := by
  intro H locs cells slots lsR hr hlv hl hn hz
  exact lv_ldc2 C.1.1 C.1.2.1 C.2.1.1 (C.2.1.2.2.2.1 _ (mm_cl2_spec hv) rfl args) (mm_dec hc).1 (K H locs cells slots lsR hr hlv hl hn hz)
theorem sg_ldcS {q : Nat} (C : mm_Cx P y d p R s m meth c) (hc : tb_cod y pc = some (.ldc k, 2)) (hv : tb_cs y k = some q)
    (K : mm_G P y n0 z0 p l e R s m args below meth c Q (pc + 2) ls (.float (UInt32.ofNat q) :: st) h) : mm_G P y n0 z0 p l e R s m args below meth c Q pc ls st h := by
  intro H locs cells slots lsR hr hlv hl hn hz
  obtain ⟨z, hz1, hz2, hz3⟩ := mm_cs_spec hv
  have hR := C.2.1.2.2.2.2.2.2.1 q z hz1
  rw [hz2] at hR
  have K2 := K H locs cells slots lsR hr hlv hl hn hz
  have e1 : mm_rv P (.float (UInt32.ofNat q)) = .ref (P.2.1 q) := by
    show Value.ref (P.2.1 (UInt32.ofNat q).toNat) = _
    rw [UInt32.toNat_ofNat_of_lt' (by show q < 4294967296; omega)]
  rw [List.map_cons, e1] at K2
  exact va_ldcS C.1.1 C.1.2.1 C.2.1.1 hR (mm_dec hc).1 K2
theorem sg_new {kd : Nat} (C : mm_Cx P y d p R s m meth c) (hc : tb_cod y pc = some (.new k, 3)) (hk : tb_ck y k = some kd) (h26 : kd ≠ 26) (r1 : mm_n h + 1 ≤ n0 + R.cells) (r2 : mm_z h + tb_sl kd ≤ z0 + R.slots)
    (K : mm_G P y n0 z0 p l e R s m args below meth c Q (pc + 3) ls (.ref (mm_n h) :: st) (mm_nw h kd (tb_sl kd) (tb_sl kd))) : mm_G P y n0 z0 p l e R s m args below meth c Q pc ls st h := by
  intro H locs cells slots lsR hr hlv hl hn hz
  have hks : kd ∈ tb_ks := (mm_ck_ks hk).resolve_right h26
  have E := C.2.1.2.2.2
  obtain ⟨w1, w2, hkk⟩ := mm_kind hks
  have hcl : Cond.classLink (tb_nm (tb_cls y)) k ((tb_kin.lookup kd).getD ("", 0)).1 ∈ lw_tbl := by
    rcases mm_ck_spec hk with q | q
    · exact q.2
    · exact absurd q.1 h26
  have hadn := mm_ad_new hr
  rcases hkk with ⟨hkd, hnm, hfn⟩ | h30
  · rw [hnm] at w1 w2 hcl
    have hKn := E.2.1 kd _ (tb_cl_at kd hkd)
    obtain ⟨hS, hfc, kC0, hkC0, hkind⟩ := hKn
    refine W.newcK C.1.1 C.1.2.1 C.2.1.1 (E.1 _ hcl rfl args) (E.1 _ w2 rfl args) (E.1 _ w1 rfl args) rfl (mm_dec hc).1 (by omega) (by omega) hfc rfl (fun H' kC hkC g1 g2 g3 => ?_)
    have hborn := u_born (args := args) (tb_ft kd) (E.1.hts args) (mm_lays hkd) (E.2.1 kd _ (tb_cl_at kd hkd)) hkC g1 (fun q hq => (mm_ft hkd hq).1)
    obtain ⟨cell, b1, b2, b3, b4⟩ := hborn
    have K2 := K H' locs (cells + 1) (slots + tb_sl kd) lsR (hr.nw g2 g3 ⟨cell, by rw [hadn]; exact b1, by rw [b3]; exact (fun q => by cases q), ?_⟩) hlv hl (by rw [mm_n_nw]; omega) (by rw [mm_z_nw]; omega)
    · have e1 : mm_rv P (.ref (mm_n h)) = .ref H.size := by show Value.ref _ = _; rw [hadn]
      rw [List.map_cons, e1] at K2
      exact K2
    · rw [mm_cl, mm_s_nw, if_pos rfl]
      refine Or.inl ⟨hkd, b2, b3, fun q hq => ?_⟩
      exact (b4 q hq).trans (congrArg some (mm_def hkd hq P h (tb_sl kd) (tb_sl kd)))
  · have h33 : kd ≤ 33 := by
      simp only [tb_ks, List.mem_cons, List.not_mem_nil, or_false] at hks
      omega
    obtain ⟨i, rfl⟩ := Nat.exists_eq_add_of_le h30
    have hX := E.2.2.2.2.1 i (by omega)
    obtain ⟨hfc, kC0, hkC0, hkind0⟩ := hX
    refine W.newcK C.1.1 C.1.2.1 C.2.1.1 (E.1 _ hcl rfl args) (E.1 _ w2 rfl args) (E.1 _ w1 rfl args) rfl (mm_dec hc).1 (by omega) (by omega) hfc rfl (fun H' kC hkC g1 g2 g3 => ?_)
    cases hkC0.symm.trans hkC
    have K2 := K H' locs (cells + 1) (slots + tb_sl (30 + i)) lsR (hr.nw g2 g3 ⟨_, by rw [hadn]; exact g1, (fun q => by cases q), ?_⟩) hlv hl (by rw [mm_n_nw]; omega) (by rw [mm_z_nw]; omega)
    · have e1 : mm_rv P (.ref (mm_n h)) = .ref H.size := by show Value.ref _ = _; rw [hadn]
      rw [List.map_cons, e1] at K2
      exact K2
    · rw [mm_cl, mm_s_nw, if_pos rfl]
      refine Or.inr (Or.inr ⟨⟨h30, h33⟩, rfl, rfl, rfl, rfl, kC0, hkC0, hkind0, ?_⟩)
      show (kC0.instanceTypes.map defaultValue).size = _
      rw [Array.size_map]
end
end
section
/-! NEW ARRAYS; OBJECT'S CONSTRUCTOR -/
theorem mm_aw : Cond.arrayClass .int ∈ lw_tbl ∧ Cond.arrayClass .long ∈ lw_tbl ∧ Cond.arrayClass .boolean ∈ lw_tbl := by decide +kernel
theorem mm_obw : Cond.instanceMethod Lib.objectInit ∈ lw_tbl ∧ Cond.code Lib.objectInit ⟨#[0xb1]⟩ 1 none ∈ lw_tbl := by decide +kernel
theorem mm_nn {x : Int32} (h0 : 0 ≤ x) (h1 : x ≤ 1000) : ¬ x < 0 ∧ x.toNatClampNeg ≤ 1000 := by
  have a := Int32.le_iff_toInt_le.mp h0
  have b := Int32.le_iff_toInt_le.mp h1
  have e0 : (0 : Int32).toInt = 0 := rfl
  have e1 : (1000 : Int32).toInt = 1000 := by decide
  refine ⟨fun q => ?_, ?_⟩
  · have := Int32.lt_iff_toInt_lt.mp q
    omega
  · have : x.toNatClampNeg = x.toInt.toNat := rfl
    omega
theorem mm_rep.arrN {P : mm_P} {s : State} {h : mm_H} {H H' : Heap} {kd len : Nat} (hr : mm_rep P s h H) (h1 : 20 ≤ kd) (h2 : kd ≤ 26) {cell : Cell} (g1 : H'[H.size]? = some cell) (g2 : H'.size = H.size + 1) (g3 : ∀ q, q < H.size → H'[q]? = H[q]?)
    (hvm : cell.vm = .none) (hsz : cell.slots.size = len) (harr : s.isArrayOf cell (mm_aty kd)) (hcls : 23 ≤ kd → cell.cls = P.2.2.2 kd) (hel : ∀ j, j < len → cell.slots[j]? = some (defaultValue (mm_aty kd))) : mm_rep P s (mm_nw h kd len len) H' := by
  refine hr.nw g2 g3 ⟨cell, by rw [mm_ad_new hr]; exact g1, by rw [hvm]; exact (fun q => by cases q), ?_⟩
  rw [mm_cl, mm_s_nw, if_pos rfl]
  refine Or.inr (Or.inl ⟨⟨h1, h2⟩, hsz, harr, hcls, fun j hj => ?_⟩)
  rw [hel j hj]
  simp only [mm_av, mm_i_nw, mm_l_nw, mm_r_nw, if_true]
  rcases (show kd = 20 ∨ kd = 21 ∨ kd = 22 ∨ kd = 23 ∨ kd = 24 ∨ kd = 25 ∨ kd = 26 by omega) with rfl | rfl | rfl | rfl | rfl | rfl | rfl <;> rfl
section
variable {P : mm_P} {y d n0 z0 : Nat} {p : Program} {l : Launch} {e : Env} {R : Room} {s : State} {m : MethodId} {args : Array Value} {below : List Frame} {meth : Method} {c : Code} {Q : State → Prop} {pc k : Nat} {ls ls' st r : List Value} {h h' : mm_H} {x x2 : Int32} {w w2 : Int64} {a b : Nat} {n off : Int}
theorem sg_newarr {ty : ClassFile.ArrayType} {kd : Nat} (C : mm_Cx P y d p R s m meth c) (hc : tb_cod y pc = some (.newarray ty, 2)) (hk : kd = 20 ∧ ty = .int ∨ kd = 21 ∧ ty = .long ∨ kd = 22 ∧ ty = .boolean) (h0 : 0 ≤ x) (h1 : x ≤ 1000) (r1 : mm_n h + 1 ≤ n0 + R.cells) (r2 : mm_z h + x.toNatClampNeg ≤ z0 + R.slots)
    (K : mm_G P y n0 z0 p l e R s m args below meth c Q (pc + 2) ls (.ref (mm_n h) :: r) (mm_nw h kd x.toNatClampNeg x.toNatClampNeg)) : mm_G P y n0 z0 p l e R s m args below meth c Q pc ls (.int x :: r) h := by
  intro H locs cells slots lsR hr hlv hl hn hz
  have E := C.2.1.2.2.2
  obtain ⟨hx0, hx1⟩ := mm_nn h0 h1
  have hadn := mm_ad_new hr
  have e1 : mm_rv P (.ref (mm_n h)) = .ref H.size := by show Value.ref _ = _; rw [hadn]
  have hword : (Cond.arrayClass (Op.newarray.typeOf ty)).before args s = true := by
    rcases hk with ⟨-, rfl⟩ | ⟨-, rfl⟩ | ⟨-, rfl⟩
    · exact E.1 _ mm_aw.1 rfl args
    · exact E.1 _ mm_aw.2.1 rfl args
    · exact E.1 _ mm_aw.2.2 rfl args
  have hty : Op.newarray.typeOf ty = mm_aty kd := by rcases hk with ⟨rfl, rfl⟩ | ⟨rfl, rfl⟩ | ⟨rfl, rfl⟩ <;> rfl
  have hby : componentBytes (Op.newarray.typeOf ty) ≤ 8 := by rcases hk with ⟨-, rfl⟩ | ⟨-, rfl⟩ | ⟨-, rfl⟩ <;> decide
  have hbytes : x.toNatClampNeg * componentBytes (Op.newarray.typeOf ty) ≤ 536870912 := Nat.le_trans (Nat.mul_le_mul hx1 hby) (by decide)
  refine W.newaK C.1.1 C.1.2.1 hword rfl (mm_dec hc).1 rfl hx0 rfl hbytes (by omega) (by omega) rfl (fun H' cA g1 g2 g3 hA => ?_)
  have K2 := K H' locs (cells + 1) (slots + x.toNatClampNeg) lsR (hr.arrN (by omega) (by omega) g1 g2 g3 rfl (arrV_size _ _ _) (by rw [← hty]; exact hA _ _) (fun q => absurd q (by omega)) (fun j hj => by rw [arrV_read _ _ hj, hty])) hlv hl (by rw [mm_n_nw]; omega) (by rw [mm_z_nw]; omega)
  rw [List.map_cons, e1] at K2
  exact K2
theorem sg_anew {kd ka : Nat} {C0 : String} (C : mm_Cx P y d p R s m meth c) (hc : tb_cod y pc = some (.anewarray k, 3)) (hck : tb_ck y k = some kd) (hkd : kd < 11) (hnm : tb_nm kd = C0) (h23 : 23 ≤ ka) (h25 : ka ≤ 25) (hat : mm_aty ka = .object C0) (hAO : va_AO C0 s) (hRA : va_RA s (P.2.2.2 ka) (.object C0)) (h0 : 0 ≤ x) (h1 : x ≤ 1000) (r1 : mm_n h + 1 ≤ n0 + R.cells) (r2 : mm_z h + x.toNatClampNeg ≤ z0 + R.slots)
    (K : mm_G P y n0 z0 p l e R s m args below meth c Q (pc + 3) ls (.ref (mm_n h) :: r) (mm_nw h ka x.toNatClampNeg x.toNatClampNeg)) : mm_G P y n0 z0 p l e R s m args below meth c Q pc ls (.int x :: r) h := by
  intro H locs cells slots lsR hr hlv hl hn hz
  have E := C.2.1.2.2.2
  obtain ⟨hx0, hx1⟩ := mm_nn h0 h1
  have hadn := mm_ad_new hr
  have e1 : mm_rv P (.ref (mm_n h)) = .ref H.size := by show Value.ref _ = _; rw [hadn]
  have hks : kd ∈ tb_ks := (mm_ck_ks hck).resolve_right (by omega)
  have hnk : ((tb_kin.lookup kd).getD ("", 0)).1 = C0 := by
    rcases (mm_kind hks).2.2 with q | q
    · rw [q.2.1, hnm]
    · omega
  have hcl : Cond.classLink (tb_nm (tb_cls y)) k C0 ∈ lw_tbl := by
    rcases mm_ck_spec hck with q | q
    · rw [← hnk]; exact q.2
    · omega
  refine W.anew C.1.1 C.1.2.1 C.2.1.1 (E.1 _ hcl rfl args) (va_AO.use hAO) rfl (mm_dec hc).1 rfl hx0 (by omega) (by omega) (by omega) (fun cA kA comp f1 f2 f3 f4 => ?_)
  obtain ⟨kA', comp', a1, a2, a3, a4⟩ := hRA
  have hcA : cA = P.2.2.2 ka := Option.some.inj (f1.symm.trans a4)
  generalize hH1 : H.push ({ cls := cA, slots := Array.replicate x.toNatClampNeg .null, vm := .none } : Cell) = H'
  have g1 : H'[H.size]? = some ({ cls := cA, slots := Array.replicate x.toNatClampNeg .null, vm := .none } : Cell) := by rw [← hH1, Array.getElem?_push_size]
  have g2 : H'.size = H.size + 1 := by rw [← hH1, Array.size_push]
  have g3 : ∀ q : Nat, q < H.size → H'[q]? = H[q]? := fun q hq => by rw [← hH1, Array.getElem?_push, if_neg (Nat.ne_of_lt hq)]
  have K2 := K H' locs (cells + 1) (slots + x.toNatClampNeg) lsR (hr.arrN (by omega) (by omega) g1 g2 g3 rfl (by simp) (by rw [hat]; exact ⟨(fun k h => by cases h), kA, f2, comp, f3⟩) (fun _ => hcA) (fun j hj => by
    rw [hat]
    show (Array.replicate x.toNatClampNeg Value.null)[j]? = _
    rw [Array.getElem?_replicate, if_pos hj]; rfl)) hlv hl (by rw [mm_n_nw]; omega) (by rw [mm_z_nw]; omega)
  rw [List.map_cons, e1] at K2
  exact K2
theorem mm_catsum {P : mm_P} (r : List Value) : ((r.map (mm_rv P)).map fun v => v.category).sum ≤ 2 * r.length := by
  induction r with
  | nil => simp
  | cons v t ih =>
    simp only [List.map_cons, List.sum_cons, List.length_cons]
    have : (mm_rv P v).category ≤ 2 := by cases v <;> simp [mm_rv, Value.category]
    omega
theorem sg_objInit (C : mm_Cx P y d p R s m meth c) (hc : tb_cod y pc = some (.invokespecial k, 3)) (hk : tb_ca y k = some 1000) (hrl : r.length ≤ 8)
    (K : mm_G P y n0 z0 p l e R s m args below meth c Q (pc + 3) ls r h) : mm_G P y n0 z0 p l e R s m args below meth c Q pc ls (.ref a :: r) h := by
  intro H locs cells slots lsR hr hlv hl hn hz
  have E := C.2.1.2.2.2
  have hw : Cond.methodLink (tb_nm (tb_cls y)) k Lib.objectInit ∈ lw_tbl := by
    unfold tb_ca at hk
    cases hlk : tb_cal.lookup (tb_cls y, k) with
    | none => rw [hlk] at hk; cases hk
    | some q =>
      rw [hlk] at hk
      obtain ⟨q1, q2, q3⟩ := q
      simp only [Option.map_some, Option.some.injEq] at hk
      subst hk
      have hok := List.all_eq_true.mp tb_okC_all _ (mm_lookup hlk)
      unfold tb_okC at hok
      rw [if_neg (by show ¬ (1000 : Nat) < 1000; omega), if_pos rfl, decide_eq_true_eq] at hok
      exact List.mem_of_getElem? hok
  have hsum := mm_catsum (P := P) r
  have hR := C.2.2.2
  refine W.objInit C.1.1 C.1.2.1 C.2.1.1 (E.1 _ hw rfl args) (E.1 _ mm_obw.1 rfl args) (E.1 _ mm_obw.2 rfl args) rfl (by rw [C.1.2.2.1]; exact hlv.1) rfl (mm_dec hc).1 (by omega) ?_ (K H locs cells slots lsR hr hlv hl hn hz)
  show 2 * 0 + _ + 12 ≤ R.locals
  omega
end
end
section
/-! each method's words: by gen.py -/
set_option maxRecDepth 100000 in
theorem tb_cw_all : ∀ y ∈ [1, 2, 3, 4, 5, 6, 7, 8, 9, 10, 11, 12, 13, 14, 15, 16, 17, 18, 19, 20, 21, 22, 23, 24, 25, 26, 27, 28, 29, 30, 31, 32, 33, 34, 35, 36, 37, 38, 39, 40, 41, 42, 43, 44, 45, 46, 47, 48, 49, 50, 51, 52, 53, 54, 55, 56, 57, 58, 59, 60, 61, 62, 63, 64, 65, 66, 67, 68, 69, 70, 71, 72, 73, 74, 75, 76, 77, 78, 79, 80, 81, 82, 83, 84, 85, 86, 87, 88, 89, 90, 91, 92, 93, 94, 95, 96, 97, 98, 99, 100, 101, 102, 103, 104, 105, 106, 107, 108, 109, 110, 111, 112, 113, 114, 115, 116, 117, 118, 119, 120, 121, 122, 123, 124, 125, 126, 127, 128, 129, 130, 131, 132, 133, 134, 135, 136, 137, 138, 139, 140, 141, 142, 143, 144, 145, 146, 147, 148], tb_cw y ∈ lw_tbl := List.forall_mem_cons.mpr ⟨tb_cwi1, List.forall_mem_cons.mpr ⟨tb_cwi2, List.forall_mem_cons.mpr ⟨tb_cwi3, List.forall_mem_cons.mpr ⟨tb_cwi4, List.forall_mem_cons.mpr ⟨tb_cwi5, List.forall_mem_cons.mpr ⟨tb_cwi6, List.forall_mem_cons.mpr ⟨tb_cwi7, List.forall_mem_cons.mpr ⟨tb_cwi8, List.forall_mem_cons.mpr ⟨tb_cwi9, List.forall_mem_cons.mpr ⟨tb_cwi10, List.forall_mem_cons.mpr ⟨tb_cwi11, List.forall_mem_cons.mpr ⟨tb_cwi12, List.forall_mem_cons.mpr ⟨tb_cwi13, List.forall_mem_cons.mpr ⟨tb_cwi14, List.forall_mem_cons.mpr ⟨tb_cwi15, List.forall_mem_cons.mpr ⟨tb_cwi16, List.forall_mem_cons.mpr ⟨tb_cwi17, List.forall_mem_cons.mpr ⟨tb_cwi18, List.forall_mem_cons.mpr ⟨tb_cwi19, List.forall_mem_cons.mpr ⟨tb_cwi20, List.forall_mem_cons.mpr ⟨tb_cwi21, List.forall_mem_cons.mpr ⟨tb_cwi22, List.forall_mem_cons.mpr ⟨tb_cwi23, List.forall_mem_cons.mpr ⟨tb_cwi24, List.forall_mem_cons.mpr ⟨tb_cwi25, List.forall_mem_cons.mpr ⟨tb_cwi26, List.forall_mem_cons.mpr ⟨tb_cwi27, List.forall_mem_cons.mpr ⟨tb_cwi28, List.forall_mem_cons.mpr ⟨tb_cwi29, List.forall_mem_cons.mpr ⟨tb_cwi30, List.forall_mem_cons.mpr ⟨tb_cwi31, List.forall_mem_cons.mpr ⟨tb_cwi32, List.forall_mem_cons.mpr ⟨tb_cwi33, List.forall_mem_cons.mpr ⟨tb_cwi34, List.forall_mem_cons.mpr ⟨tb_cwi35, List.forall_mem_cons.mpr ⟨tb_cwi36, List.forall_mem_cons.mpr ⟨tb_cwi37, List.forall_mem_cons.mpr ⟨tb_cwi38, List.forall_mem_cons.mpr ⟨tb_cwi39, List.forall_mem_cons.mpr ⟨tb_cwi40, List.forall_mem_cons.mpr ⟨tb_cwi41, List.forall_mem_cons.mpr ⟨tb_cwi42, List.forall_mem_cons.mpr ⟨tb_cwi43, List.forall_mem_cons.mpr ⟨tb_cwi44, List.forall_mem_cons.mpr ⟨tb_cwi45, List.forall_mem_cons.mpr ⟨tb_cwi46, List.forall_mem_cons.mpr ⟨tb_cwi47, List.forall_mem_cons.mpr ⟨tb_cwi48, List.forall_mem_cons.mpr ⟨tb_cwi49, List.forall_mem_cons.mpr ⟨tb_cwi50, List.forall_mem_cons.mpr ⟨tb_cwi51, List.forall_mem_cons.mpr ⟨tb_cwi52, List.forall_mem_cons.mpr ⟨tb_cwi53, List.forall_mem_cons.mpr ⟨tb_cwi54, List.forall_mem_cons.mpr ⟨tb_cwi55, List.forall_mem_cons.mpr ⟨tb_cwi56, List.forall_mem_cons.mpr ⟨tb_cwi57, List.forall_mem_cons.mpr ⟨tb_cwi58, List.forall_mem_cons.mpr ⟨tb_cwi59, List.forall_mem_cons.mpr ⟨tb_cwi60, List.forall_mem_cons.mpr ⟨tb_cwi61, List.forall_mem_cons.mpr ⟨tb_cwi62, List.forall_mem_cons.mpr ⟨tb_cwi63, List.forall_mem_cons.mpr ⟨tb_cwi64, List.forall_mem_cons.mpr ⟨tb_cwi65, List.forall_mem_cons.mpr ⟨tb_cwi66, List.forall_mem_cons.mpr ⟨tb_cwi67, List.forall_mem_cons.mpr ⟨tb_cwi68, List.forall_mem_cons.mpr ⟨tb_cwi69, List.forall_mem_cons.mpr ⟨tb_cwi70, List.forall_mem_cons.mpr ⟨tb_cwi71, List.forall_mem_cons.mpr ⟨tb_cwi72, List.forall_mem_cons.mpr ⟨tb_cwi73, List.forall_mem_cons.mpr ⟨tb_cwi74, List.forall_mem_cons.mpr ⟨tb_cwi75, List.forall_mem_cons.mpr ⟨tb_cwi76, List.forall_mem_cons.mpr ⟨tb_cwi77, List.forall_mem_cons.mpr ⟨tb_cwi78, List.forall_mem_cons.mpr ⟨tb_cwi79, List.forall_mem_cons.mpr ⟨tb_cwi80, List.forall_mem_cons.mpr ⟨tb_cwi81, List.forall_mem_cons.mpr ⟨tb_cwi82, List.forall_mem_cons.mpr ⟨tb_cwi83, List.forall_mem_cons.mpr ⟨tb_cwi84, List.forall_mem_cons.mpr ⟨tb_cwi85, List.forall_mem_cons.mpr ⟨tb_cwi86, List.forall_mem_cons.mpr ⟨tb_cwi87, List.forall_mem_cons.mpr ⟨tb_cwi88, List.forall_mem_cons.mpr ⟨tb_cwi89, List.forall_mem_cons.mpr ⟨tb_cwi90, List.forall_mem_cons.mpr ⟨tb_cwi91, List.forall_mem_cons.mpr ⟨tb_cwi92, List.forall_mem_cons.mpr ⟨tb_cwi93, List.forall_mem_cons.mpr ⟨tb_cwi94, List.forall_mem_cons.mpr ⟨tb_cwi95, List.forall_mem_cons.mpr ⟨tb_cwi96, List.forall_mem_cons.mpr ⟨tb_cwi97, List.forall_mem_cons.mpr ⟨tb_cwi98, List.forall_mem_cons.mpr ⟨tb_cwi99, List.forall_mem_cons.mpr ⟨tb_cwi100, List.forall_mem_cons.mpr ⟨tb_cwi101, List.forall_mem_cons.mpr ⟨tb_cwi102, List.forall_mem_cons.mpr ⟨tb_cwi103, List.forall_mem_cons.mpr ⟨tb_cwi104, List.forall_mem_cons.mpr ⟨tb_cwi105, List.forall_mem_cons.mpr ⟨tb_cwi106, List.forall_mem_cons.mpr ⟨tb_cwi107, List.forall_mem_cons.mpr ⟨tb_cwi108, List.forall_mem_cons.mpr ⟨tb_cwi109, List.forall_mem_cons.mpr ⟨tb_cwi110, List.forall_mem_cons.mpr ⟨tb_cwi111, List.forall_mem_cons.mpr ⟨tb_cwi112, List.forall_mem_cons.mpr ⟨tb_cwi113, List.forall_mem_cons.mpr ⟨tb_cwi114, List.forall_mem_cons.mpr ⟨tb_cwi115, List.forall_mem_cons.mpr ⟨tb_cwi116, List.forall_mem_cons.mpr ⟨tb_cwi117, List.forall_mem_cons.mpr ⟨tb_cwi118, List.forall_mem_cons.mpr ⟨tb_cwi119, List.forall_mem_cons.mpr ⟨tb_cwi120, List.forall_mem_cons.mpr ⟨tb_cwi121, List.forall_mem_cons.mpr ⟨tb_cwi122, List.forall_mem_cons.mpr ⟨tb_cwi123, List.forall_mem_cons.mpr ⟨tb_cwi124, List.forall_mem_cons.mpr ⟨tb_cwi125, List.forall_mem_cons.mpr ⟨tb_cwi126, List.forall_mem_cons.mpr ⟨tb_cwi127, List.forall_mem_cons.mpr ⟨tb_cwi128, List.forall_mem_cons.mpr ⟨tb_cwi129, List.forall_mem_cons.mpr ⟨tb_cwi130, List.forall_mem_cons.mpr ⟨tb_cwi131, List.forall_mem_cons.mpr ⟨tb_cwi132, List.forall_mem_cons.mpr ⟨tb_cwi133, List.forall_mem_cons.mpr ⟨tb_cwi134, List.forall_mem_cons.mpr ⟨tb_cwi135, List.forall_mem_cons.mpr ⟨tb_cwi136, List.forall_mem_cons.mpr ⟨tb_cwi137, List.forall_mem_cons.mpr ⟨tb_cwi138, List.forall_mem_cons.mpr ⟨tb_cwi139, List.forall_mem_cons.mpr ⟨tb_cwi140, List.forall_mem_cons.mpr ⟨tb_cwi141, List.forall_mem_cons.mpr ⟨tb_cwi142, List.forall_mem_cons.mpr ⟨tb_cwi143, List.forall_mem_cons.mpr ⟨tb_cwi144, List.forall_mem_cons.mpr ⟨tb_cwi145, List.forall_mem_cons.mpr ⟨tb_cwi146, List.forall_mem_cons.mpr ⟨tb_cwi147, List.forall_mem_cons.mpr ⟨tb_cwi148, fun _ h => absurd h List.not_mem_nil⟩⟩⟩⟩⟩⟩⟩⟩⟩⟩⟩⟩⟩⟩⟩⟩⟩⟩⟩⟩⟩⟩⟩⟩⟩⟩⟩⟩⟩⟩⟩⟩⟩⟩⟩⟩⟩⟩⟩⟩⟩⟩⟩⟩⟩⟩⟩⟩⟩⟩⟩⟩⟩⟩⟩⟩⟩⟩⟩⟩⟩⟩⟩⟩⟩⟩⟩⟩⟩⟩⟩⟩⟩⟩⟩⟩⟩⟩⟩⟩⟩⟩⟩⟩⟩⟩⟩⟩⟩⟩⟩⟩⟩⟩⟩⟩⟩⟩⟩⟩⟩⟩⟩⟩⟩⟩⟩⟩⟩⟩⟩⟩⟩⟩⟩⟩⟩⟩⟩⟩⟩⟩⟩⟩⟩⟩⟩⟩⟩⟩⟩⟩⟩⟩⟩⟩⟩⟩⟩⟩⟩⟩⟩⟩⟩⟩⟩⟩
set_option maxRecDepth 100000 in
theorem tb_okMq0 : (List.range 37).all (fun y => tb_okM (y + 1)) = true := by decide +kernel
set_option maxRecDepth 100000 in
theorem tb_okMq1 : (List.range 37).all (fun y => tb_okM (y + 38)) = true := by decide +kernel
set_option maxRecDepth 100000 in
theorem tb_okMq2 : (List.range 37).all (fun y => tb_okM (y + 75)) = true := by decide +kernel
set_option maxRecDepth 100000 in
theorem tb_okMq3 : (List.range 37).all (fun y => tb_okM (y + 112)) = true := by decide +kernel
end
section
/-! RETURNS AND CALLS -/
def mm_out (P : mm_P) : Option Value ⊕ Nat → Outcome
  | .inl v => .returned (v.map (mm_rv P))
  | .inr a => .threw (mm_ad P a)
/-- the invocation has ended as the model's has -/
def mm_fin (P : mm_P) (s : State) (below : List Frame) (n0 z0 : Nat) (res : Option Value ⊕ Nat) (h' : mm_H) : State → Prop := fun t =>
  t.status = .running ∧ Ended t below (mm_out P res) ∧ s.WarmedH t.vm ∧ mm_rep P s h' t.heap ∧ ∃ (L : List Loc) (cells slots : Nat), mm_n h' = n0 + cells ∧ mm_z h' = z0 + slots ∧ s.sameButNew ({ t with vm := s.vm } : State) L cells slots ∧ ∀ q ∈ L, P.1.2 ≤ q.base
section
variable {P : mm_P} {y d n0 z0 : Nat} {p : Program} {l : Launch} {e : Env} {R : Room} {s : State} {m : MethodId} {args : Array Value} {below : List Frame} {meth : Method} {c : Code} {Q : State → Prop} {pc k : Nat} {ls ls' st r : List Value} {h h' : mm_H} {x x2 : Int32} {w w2 : Int64} {a b : Nat} {n off : Int}
theorem sg_iret (C : mm_Cx P y d p R s m meth c) (hc : tb_cod y pc = some (.ireturn, 1)) (ht : tb_rt y = 1 ∨ tb_rt y = 3 ∧ (x = 0 ∨ x = 1)) : mm_G P y n0 z0 p l e R s m args below meth c (mm_fin P s below n0 z0 (.inl (some (.int x))) h) pc ls (.int x :: r) h := by
  intro H locs cells slots lsR hr hlv hl hn hz T hT X
  have hx := C.1.1
  have hb := C.1.2.1
  have hd := (mm_dec hc).1
  generalize tb_byt.getD y ⟨#[]⟩ = bs at hb hd
  have hlocks := C.2.1.2.1
  have hrt : ∃ ty, meth.sig.returnType = some ty ∧ narrow ty (.int x) = .int x := by
    rw [C.1.2.2.2]
    rcases ht with h1 | ⟨h3, h01⟩
    · exact ⟨.int, by unfold tb_rty; rw [h1]; rfl, rfl⟩
    · refine ⟨.boolean, by unfold tb_rty; rw [h3]; rfl, ?_⟩
      rcases h01 with rfl | rfl <;> rfl
  obtain ⟨ty, hr1, hnar⟩ := hrt
  obtain ⟨fs, hret, hrun, hended, hW, hframe⟩ := X.leave (v := some (.int x)) (fun h => by rw [hr1] at h; cases h) hlocks
  have hmeth' : T.vm.method? m = some meth := X.method'
  refine ⟨T.setFrames fs, ?_, hrun, hended, hW, by rw [← hT] at hr; exact hr, locs, cells, slots, hn, hz, hframe, hl⟩
  show Steps p.tables e below (T.setTop (F0 m pc lsR (.int x :: r.map (mm_rv P)))) _
  jvm_step X.here [X.here.top, hx, hb, hd, hmeth', hr1, hnar]
  (try refine ⟨rfl, ?_⟩); (try refine ⟨rfl, ?_⟩)
  first | (intro acts; rw [hret _ acts rfl rfl rfl]) | rw [hret _ _ rfl rfl rfl]
  exact Steps.refl _
theorem sg_lret (C : mm_Cx P y d p R s m meth c) (hc : tb_cod y pc = some (.lreturn, 1)) (ht : tb_rt y = 2) : mm_G P y n0 z0 p l e R s m args below meth c (mm_fin P s below n0 z0 (.inl (some (.long w))) h) pc ls (.long w :: r) h := by
  intro H locs cells slots lsR hr hlv hl hn hz T hT X
  have hx := C.1.1
  have hb := C.1.2.1
  have hd := (mm_dec hc).1
  generalize tb_byt.getD y ⟨#[]⟩ = bs at hb hd
  have hlocks := C.2.1.2.1
  have hr1 : meth.sig.returnType = some .long := by rw [C.1.2.2.2]; unfold tb_rty; rw [ht]; rfl
  obtain ⟨fs, hret, hrun, hended, hW, hframe⟩ := X.leave (v := some (.long w)) (fun h => by rw [hr1] at h; cases h) hlocks
  have hmeth' : T.vm.method? m = some meth := X.method'
  refine ⟨T.setFrames fs, ?_, hrun, hended, hW, by rw [← hT] at hr; exact hr, locs, cells, slots, hn, hz, hframe, hl⟩
  show Steps p.tables e below (T.setTop (F0 m pc lsR (.long w :: r.map (mm_rv P)))) _
  jvm_step X.here [X.here.top, hx, hb, hd, hmeth', hr1]
  (try refine ⟨rfl, ?_⟩); (try refine ⟨rfl, ?_⟩)
  first | (intro acts; rw [hret _ acts rfl rfl rfl]) | rw [hret _ _ rfl rfl rfl]
  exact Steps.refl _
theorem sg_vret (C : mm_Cx P y d p R s m meth c) (hc : tb_cod y pc = some (.return_, 1)) (ht : tb_rt y = 0) : mm_G P y n0 z0 p l e R s m args below meth c (mm_fin P s below n0 z0 (.inl none) h) pc ls st h := by
  intro H locs cells slots lsR hr hlv hl hn hz T hT X
  have hx := C.1.1
  have hb := C.1.2.1
  have hd := (mm_dec hc).1
  generalize tb_byt.getD y ⟨#[]⟩ = bs at hb hd
  have hlocks := C.2.1.2.1
  have hr1 : meth.sig.returnType = none := by rw [C.1.2.2.2]; unfold tb_rty; rw [ht]; rfl
  obtain ⟨fs, hret, hrun, hended, hW, hframe⟩ := X.leave (v := none) (fun _ => rfl) hlocks
  have hmeth' : T.vm.method? m = some meth := X.method'
  refine ⟨T.setFrames fs, ?_, hrun, hended, hW, by rw [← hT] at hr; exact hr, locs, cells, slots, hn, hz, hframe, hl⟩
  show Steps p.tables e below (T.setTop (F0 m pc lsR (st.map (mm_rv P)))) _
  jvm_step X.here [X.here.top, hx, hb, hd, hmeth', hr1]
  (try refine ⟨rfl, ?_⟩); (try refine ⟨rfl, ?_⟩)
  first | (intro acts; rw [hret _ acts rfl rfl rfl]) | rw [hret _ _ rfl rfl rfl]
  exact Steps.refl _
theorem sg_aret {o : Option Nat} (C : mm_Cx P y d p R s m meth c) (hc : tb_cod y pc = some (.areturn, 1)) (ht : tb_rt y = 4) : mm_G P y n0 z0 p l e R s m args below meth c (mm_fin P s below n0 z0 (.inl (some (mm_o o))) h) pc ls (mm_o o :: r) h := by
  intro H locs cells slots lsR hr hlv hl hn hz T hT X
  have hx := C.1.1
  have hb := C.1.2.1
  have hd := (mm_dec hc).1
  generalize tb_byt.getD y ⟨#[]⟩ = bs at hb hd
  have hlocks := C.2.1.2.1
  have hr1 : ∃ n, meth.sig.returnType = some (.object n) := by
    rw [C.1.2.2.2]
    unfold tb_rty
    rw [ht]
    by_cases hy : y = 41
    · exact ⟨_, show (if y = 41 then some (FieldType.object "LoadRoom$Piece") else some (FieldType.object "LoadRoom$Placed")) = _ from if_pos hy⟩
    · exact ⟨_, show (if y = 41 then some (FieldType.object "LoadRoom$Piece") else some (FieldType.object "LoadRoom$Placed")) = _ from if_neg hy⟩
  obtain ⟨nm, hr1⟩ := hr1
  have hmeth' : T.vm.method? m = some meth := X.method'
  cases o with
  | none =>
    obtain ⟨fs, hret, hrun, hended, hW, hframe⟩ := X.leave (v := some .null) (fun h => by rw [hr1] at h; cases h) hlocks
    refine ⟨T.setFrames fs, ?_, hrun, hended, hW, by rw [← hT] at hr; exact hr, locs, cells, slots, hn, hz, hframe, hl⟩
    show Steps p.tables e below (T.setTop (F0 m pc lsR (.null :: r.map (mm_rv P)))) _
    jvm_step X.here [X.here.top, hx, hb, hd, hmeth', hr1]
    (try refine ⟨rfl, ?_⟩); (try refine ⟨rfl, ?_⟩)
    first | (intro acts; rw [hret _ acts rfl rfl rfl]) | rw [hret _ _ rfl rfl rfl]
    exact Steps.refl _
  | some v =>
    obtain ⟨fs, hret, hrun, hended, hW, hframe⟩ := X.leave (v := some (.ref (mm_ad P v))) (fun h => by rw [hr1] at h; cases h) hlocks
    refine ⟨T.setFrames fs, ?_, hrun, hended, hW, by rw [← hT] at hr; exact hr, locs, cells, slots, hn, hz, hframe, hl⟩
    show Steps p.tables e below (T.setTop (F0 m pc lsR (.ref (mm_ad P v) :: r.map (mm_rv P)))) _
    jvm_step X.here [X.here.top, hx, hb, hd, hmeth', hr1]
    (try refine ⟨rfl, ?_⟩); (try refine ⟨rfl, ?_⟩)
    first | (intro acts; rw [hret _ acts rfl rfl rfl]) | rw [hret _ _ rfl rfl rfl]
    exact Steps.refl _
end
end
section
/-! INTO A CALLEE AND BACK -/
theorem mm_mem {z : Nat} (h0 : 0 < z) (hz : z < 149) : tb_cw z ∈ lw_tbl := by
  refine tb_cw_all z ?_
  have : z ∈ List.range' 1 148 := by rw [List.mem_range']; exact ⟨z - 1, by omega, by omega⟩
  exact this
theorem mm_okM {z : Nat} (h0 : 0 < z) (hz : z < 149) : tb_okM z = true := by
  rcases (show z - 1 < 37 ∨ (37 ≤ z - 1 ∧ z - 1 < 74) ∨ (74 ≤ z - 1 ∧ z - 1 < 111) ∨ (111 ≤ z - 1 ∧ z - 1 < 148) by omega) with q | q | q | q
  · have := List.all_eq_true.mp tb_okMq0 (z - 1) (List.mem_range.mpr q)
    rwa [show z - 1 + 1 = z by omega] at this
  · have := List.all_eq_true.mp tb_okMq1 (z - 38) (List.mem_range.mpr (by omega))
    rwa [show z - 38 + 38 = z by omega] at this
  · have := List.all_eq_true.mp tb_okMq2 (z - 75) (List.mem_range.mpr (by omega))
    rwa [show z - 75 + 75 = z by omega] at this
  · have := List.all_eq_true.mp tb_okMq3 (z - 112) (List.mem_range.mpr (by omega))
    rwa [show z - 112 + 112 = z by omega] at this
/-- a method, as the tables have it -/
def mm_Fk (s : State) (z : Nat) (mk : MethodId) (methk : Method) (ck : Code) : Prop :=
  s.methodNamed? (tb_y z) = some mk ∧ s.vm.method? mk = some methk ∧ methk.code = some ck ∧ ck.code = tb_byt.getD z ⟨#[]⟩ ∧ ck.maxLocals = tb_nL z ∧ ck.exceptionTable.toList.map (fun h => (h.startPc, h.endPc, h.handlerPc, h.catchType)) = (tb_han.getD z []).map (fun q => (q.1, q.2.1, q.2.2.1, q.2.2.2.2)) ∧ methk.sig.returnType = tb_rty z ∧ methk.locks = false ∧ parseMethodDescriptor (tb_y z).desc = some methk.sig ∧ methk.name = (tb_y z).name ∧ s.vm.findClass (tb_nm (tb_cls z)) = some mk.cls
theorem mm_callee {P : mm_P} {s : State} (E : mm_Ev P s) {z : Nat} (h0 : 0 < z) (hz : z < 149) : ∃ (mk : MethodId) (methk : Method) (ck : Code), mm_Fk s z mk methk ck := by
  have hmem := mm_mem h0 hz
  have hg : mm_gw (tb_cw z) = true := by
    unfold tb_cw
    dsimp only
    split <;> rfl
  have hw := E.1 _ hmem hg #[]
  unfold tb_cw at hw
  dsimp only at hw
  split at hw
  · rename_i hs
    obtain ⟨mk, hnamed⟩ := Cond.code_named hw
    obtain ⟨methk, ck, a1, a2, a3, a4, a5, a6, a7, a8⟩ := Cond.code_spec hnamed hw
    refine ⟨mk, methk, ck, hnamed, a1, a2, a3, a4, ?_, a5, a6, a8, (name_of_methodNamed hnamed a1).1, findClass_of_methodNamed hnamed⟩
    rw [hs]
    have : ck.exceptionTable.toList = [] := by
      have h2 : ck.exceptionTable.size = 0 := by simpa [Array.isEmpty] using a7
      exact List.length_eq_zero_iff.mp (by simpa using h2)
    rw [this]; rfl
  · obtain ⟨mk, methk, ck, hnamed, a1, a2, a3, a4, a5, a6, a7, a8⟩ := Cond.codeWith_spec hw
    exact ⟨mk, methk, ck, hnamed, a1, a2, a3, a4, a5, a6, a7, a8, (name_of_methodNamed hnamed a1).1, findClass_of_methodNamed hnamed⟩
theorem tb_plain : (List.range 149).all (fun z => plainFor (tb_y z) && (decide (tb_nL z ≤ 20) && (decide ((tb_y z).cls ≠ "java/lang/invoke/MethodHandle" ∧ (tb_y z).cls ≠ "java/lang/invoke/VarHandle") && decide ((parseMethodDescriptor (tb_y z).desc).map (fun g => g.parameters.length + (if tb_sta z = true then 0 else 1)) = some (tb_na z))))) = true := by decide +kernel
theorem mm_plain {z : Nat} (hz : z < 149) : plainFor (tb_y z) = true ∧ tb_nL z ≤ 20 ∧ ((tb_y z).cls ≠ "java/lang/invoke/MethodHandle" ∧ (tb_y z).cls ≠ "java/lang/invoke/VarHandle") ∧ (parseMethodDescriptor (tb_y z).desc).map (fun g => g.parameters.length + (if tb_sta z = true then 0 else 1)) = some (tb_na z) := by
  have := List.all_eq_true.mp tb_plain z (List.mem_range.mpr hz)
  simp only [Bool.and_eq_true, decide_eq_true_eq] at this
  exact this
theorem mm_rv_c (P : mm_P) (v : Value) : (mm_rv P v).category = v.category := by cases v <;> rfl
theorem mm_xl (P : mm_P) (as : List Value) : (mm_x as).length = (lg_sl (as.map (mm_rv P))).length ∧ ∀ (i : Nat) (v : Value), (mm_x as)[i]? = some v → v ≠ mm_j → (lg_sl (as.map (mm_rv P)))[i]? = some (Slot.val (mm_rv P v)) := by
  induction as with
  | nil => exact ⟨rfl, fun i v h => by simp [mm_x] at h⟩
  | cons w t ih =>
    by_cases hw : w.category = 2
    · have e1 : mm_x (w :: t) = w :: mm_j :: mm_x t := by rw [mm_x, if_pos hw]
      have e2 : lg_sl ((w :: t).map (mm_rv P)) = .val (mm_rv P w) :: .second :: lg_sl (t.map (mm_rv P)) := by simp [lg_sl, mm_rv_c, hw]
      rw [e1, e2]
      refine ⟨by simp [ih.1], fun i v h hv => ?_⟩
      match i, h with
      | 0, h => simp at h; subst h; rfl
      | 1, h => simp at h; exact absurd h.symm hv
      | i + 2, h => exact ih.2 i v (by simpa using h) hv
    · have e1 : mm_x (w :: t) = w :: mm_x t := by rw [mm_x, if_neg hw]
      have e2 : lg_sl ((w :: t).map (mm_rv P)) = .val (mm_rv P w) :: lg_sl (t.map (mm_rv P)) := by simp [lg_sl, mm_rv_c, hw]
      rw [e1, e2]
      refine ⟨by simp [ih.1], fun i v h hv => ?_⟩
      match i, h with
      | 0, h => simp at h; subst h; rfl
      | i + 1, h => exact ih.2 i v (by simpa using h) hv
theorem mm_e2_spec {lng : List Nat} : ∀ (env : List Value) (i : Nat), mm_e2 lng i env = true → ∀ (j : Nat) (v : Value), env[j]? = some v → v.category = 2 → i + j ∈ lng := by
  intro env
  induction env with
  | nil => intro i _ j v h; simp at h
  | cons w t ih =>
    intro i hi j v h hv
    simp only [mm_e2, Bool.and_eq_true, Bool.or_eq_true, bne_iff_ne, ne_eq] at hi
    match j, h with
    | 0, h =>
      simp at h
      subst h
      rcases hi.1 with q | q
      · exact absurd hv q
      · simpa using q
    | j + 1, h =>
      have := ih (i + 1) hi.2 j v (by simpa using h) hv
      rwa [show i + (j + 1) = i + 1 + j by omega]
theorem mm_entry {P : mm_P} {z : Nat} {as : List Value} (hok : mm_eok z (mm_ent z as) = true) : mm_lv P z (mm_ent z as) ((lg_sl (as.map (mm_rv P)) ++ List.replicate (tb_nL z - (lg_sl (as.map (mm_rv P))).length) Slot.unset).toArray) := by
  unfold mm_eok at hok
  simp only [Bool.and_eq_true, beq_iff_eq] at hok
  obtain ⟨hlen, he2⟩ := hok
  obtain ⟨x1, x2⟩ := mm_xl P as
  have hle : (lg_sl (as.map (mm_rv P))).length ≤ tb_nL z := by
    rw [← x1]
    have h3 := hlen
    unfold mm_ent at h3
    rw [List.length_append, List.length_replicate] at h3
    omega
  have hv := lv_entry (as.map (mm_rv P)) hle
  refine ⟨hv.1, hlen, hv.2.1, fun i v hi hj => ?_, fun i v hi hc => ?_⟩
  · unfold mm_ent at hi
    rw [List.getElem?_append] at hi
    split at hi
    · rename_i hlt
      rw [List.getElem?_toArray, List.getElem?_append_left (by rw [← x1]; exact hlt)]
      exact x2 i v hi hj
    · rw [List.getElem?_replicate] at hi
      split at hi
      · cases hi; exact absurd rfl hj
      · cases hi
  · have := mm_e2_spec _ 0 he2 i v hi hc
    simpa using this
end
section
/-! A CALL -/
theorem mm_weaken {tb : Tables} {e : Env} {mid below : List Frame} {a b : State} (h : Steps tb e (mid ++ below) a b) : Steps tb e below a b := by
  obtain ⟨n, hn, w⟩ := h
  exact ⟨n, hn, fun k hk => (w k hk).weaken⟩
/-- where the caller stands behind a call -/
def mm_after (P : mm_P) (m : MethodId) (pc : Nat) (lsR : Array Slot) (rest : List Value) (res : Option Value ⊕ Nat) (T' : State) : State := match res with
  | .inl v => T'.setTop (F0 m (pc + 3) lsR ((v.toList ++ rest).map (mm_rv P)))
  | .inr a => (T'.setTop (F0 m pc lsR (rest.map (mm_rv P)))).pushFrame (.throwing (mm_ad P a))
section
variable {P : mm_P} {y d n0 z0 : Nat} {p : Program} {l : Launch} {e : Env} {R : Room} {s : State} {m : MethodId} {args : Array Value} {below : List Frame} {meth : Method} {c : Code} {Q : State → Prop} {pc k : Nat} {ls ls' st r : List Value} {h h1 : mm_H} {x x2 : Int32} {w w2 : Int64} {a b : Nat} {n off : Int}
set_option maxHeartbeats 1000000 in
theorem mm_enter {z : Nat} {as rest : List Value} {res : Option Value ⊕ Nat} {mk : MethodId} {methk : Method} {ck : Code} {ig : ClassFile.Instr} {T₁ : State} {locs : List Loc} {cells slots : Nat} {lsR : Array Slot} {H : Heap}
    (C : mm_Cx P y (d + 1) p R s m meth c) (hz : z < 149) (hok : mm_eok z (mm_ent z as) = true) (hrest : rest.length ≤ 8) (F : mm_Fk s z mk methk ck) (hdg : decode c.code pc = .ok (ig, 3))
    (X₁ : Stand p l e R s m args below meth c T₁ locs cells slots) (hT : T₁.heap = H) (hr : mm_rep P s h H) (hlv : lsR.size = tb_nL y) (hl : ∀ q ∈ locs, P.1.2 ≤ q.base) (hn : mm_n h = n0 + cells) (hzz : mm_z h = z0 + slots)
    (q1 : mm_n h1 ≤ n0 + R.cells) (q2 : mm_z h1 ≤ z0 + R.slots) (q3 : mm_n h ≤ mm_n h1) (q4 : mm_z h ≤ mm_z h1)
    (IH : ∀ (R' : Room) (s' : State) (m' : MethodId) (args' : Array Value) (below' : List Frame) (meth' : Method) (c' : Code), mm_Cx P z d p R' s' m' meth' c' → mm_n h1 ≤ mm_n h + R'.cells → mm_z h1 ≤ mm_z h + R'.slots → mm_G P z (mm_n h) (mm_z h) p l e R' s' m' args' below' meth' c' (mm_fin P s' below' (mm_n h) (mm_z h) res h1) 0 (mm_ent z as) [] h) :
    ∃ (T' : State) (L : List Loc) (cells' slots' : Nat), Stand p l e R s m args below meth c T' (locs ++ L) cells' slots' ∧ mm_rep P s h1 T'.heap ∧ (∀ q ∈ locs ++ L, P.1.2 ≤ q.base) ∧ mm_n h1 = n0 + cells' ∧ mm_z h1 = z0 + slots' ∧
      ∀ acts, Steps p.tables e below (doInvoke e (T₁.setTop (F0 m pc lsR (rest.map (mm_rv P)))) acts mk (as.map (mm_rv P)).toArray).1 (mm_after P m pc lsR rest res T') := by
  obtain ⟨hnamed, f1, f2, f3, f4, f5, f6, f7, f8, f9, f10⟩ := F
  obtain ⟨g1, g2, g3, g4⟩ := mm_plain hz
  have alike := X₁.warmed.alike
  have hsum := mm_catsum (P := P) rest
  have hR := C.2.2.2
  have hmk : T₁.vm.method? mk = some methk := by rw [alike.method?]; exact f1
  have hpk : T₁.plainMethod mk := State.plainMethod.of_named g1 (X₁.named hnamed) hmk
  obtain ⟨Y₀, hin⟩ := X₁.into (g := F0 m pc lsR (rest.map (mm_rv P))) rfl (by rw [C.1.2.2.1]; exact hlv) hdg (as.map (mm_rv P)).toArray (R' := { frames := R.frames - 1, cells := R.cells - cells, slots := R.slots - slots, locals := 60 * (d + 8) }) hmk f2 f7 hpk (by show R.frames - 1 + 1 ≤ R.frames; omega)
    (by show 2 * 0 + ((rest.map (mm_rv P)).map fun v => v.category).sum + (ck.maxLocals + 11) + 60 * (d + 8) ≤ R.locals; rw [f4]; omega) (by show cells + (R.cells - cells) ≤ R.cells; omega) (by show slots + (R.slots - slots) ≤ R.slots; omega)
  generalize hU : (T₁.setTop (F0 m pc lsR (rest.map (mm_rv P)))).pushFrame (.java (entryFrame mk (as.map (mm_rv P)).toArray ck.maxLocals)) = U at Y₀ hin
  generalize hS : T₁.calling (F0 m pc lsR (rest.map (mm_rv P))) mk (as.map (mm_rv P)).toArray = s' at Y₀
  have hvm' : s'.vm = T₁.vm := by rw [← hS]; rfl
  have hW' : s.WarmedH s'.vm := by rw [hvm']; exact X₁.warmed
  have hUh : U.heap = H := by rw [← hU]; exact hT
  have C' : mm_Cx P z d p { frames := R.frames - 1, cells := R.cells - cells, slots := R.slots - slots, locals := 60 * (d + 8) } s' mk methk ck := by
    refine ⟨⟨C.1.1, f3, f4, f6⟩, ⟨?_, f7, f9, C.2.1.2.2.2.moved hW'⟩, ⟨hz, f5⟩, by show d + 8 ≤ R.frames - 1; omega, Nat.le_refl _⟩
    rw [hW'.alike.findClass]; exact f10
  have G := IH _ s' mk (as.map (mm_rv P)).toArray (.java (F0 m pc lsR (rest.map (mm_rv P))) :: below) methk ck C' (by show mm_n h1 ≤ mm_n h + (R.cells - cells); omega) (by show mm_z h1 ≤ mm_z h + (R.slots - slots); omega)
  have G2 := G H [] 0 0 _ (hr.moved hW'.alike) (mm_entry hok) (fun q hq => by cases hq) rfl rfl U hUh Y₀
  obtain ⟨t, hsteps, hrun, hended, hWt, hrept, L, cells', slots', n1, z1, hsame, hL⟩ := G2
  have hent : entryFrame mk (as.map (mm_rv P)).toArray ck.maxLocals = F0 mk 0 ((lg_sl (as.map (mm_rv P)) ++ List.replicate (tb_nL z - (lg_sl (as.map (mm_rv P))).length) Slot.unset).toArray) [] := by rw [f4]; exact lg_entry_eq _ _ _
  have hsteps' : Steps p.tables e below (U.setTop (entryFrame mk (as.map (mm_rv P)).toArray ck.maxLocals)) t := by
    rw [hent]
    exact mm_weaken (mid := [.java (F0 m pc lsR (rest.map (mm_rv P)))]) hsteps
  subst hS
  have hlocs : ∀ q ∈ locs ++ L, P.1.2 ≤ q.base := by
    intro q hq
    rcases List.mem_append.mp hq with q' | q'
    · exact hl q q'
    · exact hL q q'
  cases res with
  | inl v =>
    obtain ⟨T', X', hWT, -, ht⟩ := X₁.outOf (g := F0 m pc lsR (rest.map (mm_rv P))) rfl hdg hended hWt hsame
    refine ⟨T', L, cells + cells', slots + slots', X', ?_, hlocs, by omega, by omega, fun acts => ?_⟩
    · have h5 : T'.heap = t.heap := by rw [ht]; simp
      rw [h5]
      exact hrept.moved hW'.alike.symm
    · rw [hin acts]
      have : mm_after P m pc lsR rest (.inl v) T' = t := by
        rw [ht]
        cases v <;> rfl
      rw [this]
      exact hsteps'
  | inr a =>
    obtain ⟨T', X', hWT, -, ht⟩ := X₁.outOfThrown (g := F0 m pc lsR (rest.map (mm_rv P))) rfl hended hWt hsame
    refine ⟨T', L, cells + cells', slots + slots', X', ?_, hlocs, by omega, by omega, fun acts => ?_⟩
    · have h5 : T'.heap = t.heap := by rw [ht]; exact (Stand.throwing_heap T' _ _).symm
      rw [h5]
      exact hrept.moved hW'.alike.symm
    · rw [hin acts]
      have : mm_after P m pc lsR rest (.inr a) T' = t := by
        rw [ht]
        rfl
      rw [this]
      exact hsteps'
end
end
section
/-! THE THREE KINDS OF CALL; WHAT IS THROWN -/
theorem mm_ca_spec {y k z : Nat} (hk : tb_ca y k = some z) (hz : z < 1000) : 0 < z ∧ ∃ nest : Bool, (if nest = true then .methodLinkNest (tb_nm (tb_cls y)) k (tb_y z) "LoadRoom" else .methodLink (tb_nm (tb_cls y)) k (tb_y z) : Cond) ∈ lw_tbl := by
  unfold tb_ca at hk
  cases hlk : tb_cal.lookup (tb_cls y, k) with
  | none => rw [hlk] at hk; cases hk
  | some q =>
    rw [hlk] at hk
    obtain ⟨q1, q2, q3⟩ := q
    simp only [Option.map_some, Option.some.injEq] at hk
    subst hk
    have hok := List.all_eq_true.mp tb_okC_all _ (mm_lookup hlk)
    unfold tb_okC at hok
    rw [if_pos hz] at hok
    simp only [Bool.and_eq_true, decide_eq_true_eq] at hok
    exact ⟨hok.2, q3, List.mem_of_getElem? hok.1⟩
theorem tb_cal_lt : tb_cal.all (fun q => decide (q.2.1 < 149 ∨ 1000 ≤ q.2.1)) = true := by decide +kernel
theorem mm_ca_lt {y k z : Nat} (hk : tb_ca y k = some z) (hz : z < 1000) : z < 149 := by
  unfold tb_ca at hk
  cases hlk : tb_cal.lookup (tb_cls y, k) with
  | none => rw [hlk] at hk; cases hk
  | some q =>
    rw [hlk] at hk
    simp only [Option.map_some, Option.some.injEq] at hk
    subst hk
    have hok := List.all_eq_true.mp tb_cal_lt _ (mm_lookup hlk)
    simp only [decide_eq_true_eq] at hok
    rcases hok with q | q
    · exact q
    · omega
section
variable {P : mm_P} {y d n0 z0 : Nat} {p : Program} {l : Launch} {e : Env} {R : Room} {s : State} {m : MethodId} {args : Array Value} {below : List Frame} {meth : Method} {c : Code} {Q : State → Prop} {pc k : Nat} {ls ls' st r : List Value} {h h1 : mm_H} {x x2 : Int32} {w w2 : Int64} {a b : Nat} {n off : Int}
/-- what must come of the caller behind a call that came to res -/
def mm_K (P : mm_P) (y n0 z0 : Nat) (p : Program) (l : Launch) (e : Env) (R : Room) (s : State) (m : MethodId) (args : Array Value) (below : List Frame) (meth : Method) (c : Code) (Q : State → Prop) (pc : Nat) (ls rest : List Value) (res : Option Value ⊕ Nat) (h1 : mm_H) : Prop :=
  ∀ (T' : State) (locs : List Loc) (cells slots : Nat) (lsR : Array Slot), Stand p l e R s m args below meth c T' locs cells slots → mm_rep P s h1 T'.heap → mm_lv P y ls lsR → (∀ q ∈ locs, P.1.2 ≤ q.base) → mm_n h1 = n0 + cells → mm_z h1 = z0 + slots → ∃ t, Steps p.tables e below (mm_after P m pc lsR rest res T') t ∧ Q t
theorem mm_K.ret {v : Option Value} {rest : List Value} (G : mm_G P y n0 z0 p l e R s m args below meth c Q (pc + 3) ls (v.toList ++ rest) h1) : mm_K P y n0 z0 p l e R s m args below meth c Q pc ls rest (.inl v) h1 := by
  intro T' locs cells slots lsR X hr hlv hl hn hz
  exact G T'.heap locs cells slots lsR hr hlv hl hn hz T' rfl X
/-- the arguments, and what stays -/
theorem mm_split {st : List Value} {n : Nat} (hn : n ≤ st.length) : st = (st.take n).reverse.reverse ++ st.drop n := by rw [List.reverse_reverse, List.take_append_drop]
theorem sg_static {z : Nat} {res : Option Value ⊕ Nat} (C : mm_Cx P y (d + 1) p R s m meth c) (hc : tb_cod y pc = some (.invokestatic k, 3)) (hk : tb_ca y k = some z) (hz : z < 1000) (hst : tb_sta z = true) (h1a : tb_na z ≤ st.length) (h1b : st.length ≤ tb_na z + 8) (hok : mm_eok z (mm_ent z (st.take (tb_na z)).reverse) = true)
    (q1 : mm_n h1 ≤ n0 + R.cells) (q2 : mm_z h1 ≤ z0 + R.slots) (q3 : mm_n h ≤ mm_n h1) (q4 : mm_z h ≤ mm_z h1)
    (IH : ∀ (R' : Room) (s' : State) (m' : MethodId) (args' : Array Value) (below' : List Frame) (meth' : Method) (c' : Code), mm_Cx P z d p R' s' m' meth' c' → mm_n h1 ≤ mm_n h + R'.cells → mm_z h1 ≤ mm_z h + R'.slots → mm_G P z (mm_n h) (mm_z h) p l e R' s' m' args' below' meth' c' (mm_fin P s' below' (mm_n h) (mm_z h) res h1) 0 (mm_ent z (st.take (tb_na z)).reverse) [] h)
    (K : mm_K P y n0 z0 p l e R s m args below meth c Q pc ls (st.drop (tb_na z)) res h1) : mm_G P y n0 z0 p l e R s m args below meth c Q pc ls st h := by
  intro H locs cells slots lsR hr hlv hl hn hzz T hT X
  have E := C.2.1.2.2.2
  obtain ⟨h0, nest, hw⟩ := mm_ca_spec hk hz
  have h149 := mm_ca_lt hk hz
  obtain ⟨mk, methk, ck, F⟩ := mm_callee E h0 h149
  have F' := F
  obtain ⟨hnamed, f1, f2, f3, f4, f5, f6, f7, f8, f9, f10⟩ := F'
  obtain ⟨g1, g2, g3, g4⟩ := mm_plain h149
  have hokM := mm_okM h0 h149
  unfold tb_okM at hokM
  simp only [hst, if_true, Bool.and_eq_true, decide_eq_true_eq] at hokM
  have hstat := E.1 _ (List.mem_of_getElem? hokM.1) rfl args
  have hini := E.1 _ (List.mem_of_getElem? hokM.2.2) rfl args
  have hstatic : methk.isStatic = true := Cond.static_spec hnamed f1 hstat
  obtain ⟨kP, hkP, -⟩ := className_of_methodNamed hnamed
  have hinitP : kP.init = .initialized := Cond.initialized_spec (findClass_of_methodNamed hnamed) hkP hini
  have hlen : (((st.take (tb_na z)).reverse).map (mm_rv P)).length = methk.sig.parameters.length := by
    rw [f8] at g4
    simp only [Option.map_some, hst, if_true, Option.some.injEq] at g4
    simp [List.length_take]
    omega
  have hstack : st.map (mm_rv P) = (((st.take (tb_na z)).reverse).map (mm_rv P)).reverse ++ (st.drop (tb_na z)).map (mm_rv P) := by
    rw [← List.map_reverse, List.reverse_reverse, ← List.map_append, List.take_append_drop]
  have hdc : decode c.code pc = .ok (.invokestatic k, 3) := by rw [C.1.2.1]; exact (mm_dec hc).1
  have hstep : ∃ vm', Stand p l e R s m args below meth c (T.setVm vm') locs cells slots ∧ ∀ target, (∀ acts, Steps p.tables e below (doInvoke e ((T.setVm vm').setTop (F0 m pc lsR ((st.drop (tb_na z)).map (mm_rv P)))) acts mk (((st.take (tb_na z)).reverse).map (mm_rv P)).toArray).1 target) → Steps p.tables e below (T.setTop (F0 m pc lsR (st.map (mm_rv P)))) target := by
    cases nest with
    | true => exact X.invokestaticNest C.1.1 C.2.1.1 (E.1 _ hw rfl args) hnamed f1 hstatic hkP hinitP g3 (g := F0 m pc lsR (st.map (mm_rv P))) rfl hlen hstack hdc
    | false => exact X.invokestatic C.1.1 C.2.1.1 (E.1 _ hw rfl args) hnamed f1 hstatic hkP hinitP g3 (g := F0 m pc lsR (st.map (mm_rv P))) rfl hlen hstack hdc
  obtain ⟨vm', X₁, hst1⟩ := hstep
  obtain ⟨T', L, cells', slots', X', hr', hl', n1, z1, hsteps⟩ := mm_enter C h149 hok (rest := st.drop (tb_na z)) (by rw [List.length_drop]; omega) F hdc X₁ hT hr hlv.1 hl hn hzz q1 q2 q3 q4 IH
  obtain ⟨t, ht, hQ⟩ := K T' _ cells' slots' lsR X' hr' hlv hl' n1 z1
  exact ⟨t, hst1 t (fun acts => (hsteps acts).trans ht), hQ⟩
theorem sg_virtual {z : Nat} {res : Option Value ⊕ Nat} (C : mm_Cx P y (d + 1) p R s m meth c) (hc : tb_cod y pc = some (.invokevirtual k, 3)) (hk : tb_ca y k = some z) (hz : z < 1000) (hst : tb_sta z = false) (hini : (tb_y z).name ≠ "<init>") (hcls : tb_cls z < 11) (h1a : tb_na z ≤ st.length) (h1b : st.length ≤ tb_na z + 8) (hv : st[tb_na z - 1]? = some (.ref a)) (hka : (mm_s h a).1 = tb_cls z) (hok : mm_eok z (mm_ent z (st.take (tb_na z)).reverse) = true)
    (q1 : mm_n h1 ≤ n0 + R.cells) (q2 : mm_z h1 ≤ z0 + R.slots) (q3 : mm_n h ≤ mm_n h1) (q4 : mm_z h ≤ mm_z h1)
    (IH : ∀ (R' : Room) (s' : State) (m' : MethodId) (args' : Array Value) (below' : List Frame) (meth' : Method) (c' : Code), mm_Cx P z d p R' s' m' meth' c' → mm_n h1 ≤ mm_n h + R'.cells → mm_z h1 ≤ mm_z h + R'.slots → mm_G P z (mm_n h) (mm_z h) p l e R' s' m' args' below' meth' c' (mm_fin P s' below' (mm_n h) (mm_z h) res h1) 0 (mm_ent z (st.take (tb_na z)).reverse) [] h)
    (K : mm_K P y n0 z0 p l e R s m args below meth c Q pc ls (st.drop (tb_na z)) res h1) : mm_G P y n0 z0 p l e R s m args below meth c Q pc ls st h := by
  intro H locs cells slots lsR hr hlv hl hn hzz T hT X
  have E := C.2.1.2.2.2
  obtain ⟨h0, nest, hw⟩ := mm_ca_spec hk hz
  have h149 := mm_ca_lt hk hz
  obtain ⟨mk, methk, ck, F⟩ := mm_callee E h0 h149
  have F' := F
  obtain ⟨hnamed, f1, f2, f3, f4, f5, f6, f7, f8, f9, f10⟩ := F'
  obtain ⟨g1, g2, g3, g4⟩ := mm_plain h149
  have hokM := mm_okM h0 h149
  unfold tb_okM at hokM
  simp only [hst, Bool.false_eq_true, if_false, Bool.false_or, Bool.and_eq_true, Bool.or_eq_true, beq_iff_eq, decide_eq_true_eq] at hokM
  have hinst := E.1 _ (List.mem_of_getElem? hokM.1) rfl args
  have hsel := E.1 _ (List.mem_of_getElem? (hokM.2.1.resolve_left hini)) rfl args
  obtain ⟨ha, ha0, cell, e1, e2, e3, e4⟩ := hr.obj hka hcls
  obtain ⟨mk2, methM, hnamed2, hmethM, hstM, habM⟩ := Cond.instanceMethod_spec hinst
  cases hnamed.symm.trans hnamed2
  cases f1.symm.trans hmethM
  obtain ⟨c2, r2, m2, s1, s2, s3, s4, kP, hkP, hkPi⟩ := Cond.selects_spec hsel
  have hfc : s.vm.findClass (tb_y z).cls = some cell.cls := by
    have := (E.2.1 (tb_cls z) _ (tb_cl_at (tb_cls z) hcls)).2.1
    rw [e2]; exact this
  cases hfc.symm.trans s1
  cases (State.methodFound?_of_named hnamed g3).symm.trans s2
  cases hnamed.symm.trans s3
  have hselP : selectMethod e.platform s.vm cell.cls mk = .method mk := by rw [Launch.admits_selectMethod X.admits]; exact s4
  have hna : 1 ≤ tb_na z := by
    rw [f8] at g4
    simp only [Option.map_some, hst, Bool.false_eq_true, if_false, Option.some.injEq] at g4
    omega
  have hrev : (st.take (tb_na z)).reverse = .ref a :: (st.take (tb_na z - 1)).reverse := by
    have : st.take (tb_na z) = st.take (tb_na z - 1) ++ [.ref a] := by
      have h3 : tb_na z = tb_na z - 1 + 1 := by omega
      rw [h3, List.take_succ, show tb_na z - 1 + 1 - 1 = tb_na z - 1 by omega, hv]
      rfl
    rw [this, List.reverse_append]
    rfl
  have hlen : (((st.take (tb_na z - 1)).reverse).map (mm_rv P)).length = methk.sig.parameters.length := by
    rw [f8] at g4
    simp only [Option.map_some, hst, Bool.false_eq_true, if_false, Option.some.injEq] at g4
    simp [List.length_take]
    omega
  have hstack : st.map (mm_rv P) = (((st.take (tb_na z - 1)).reverse).map (mm_rv P)).reverse ++ .ref (mm_ad P a) :: (st.drop (tb_na z)).map (mm_rv P) := by
    have h4 : st = (st.take (tb_na z)).reverse.reverse ++ st.drop (tb_na z) := mm_split h1a
    rw [hrev] at h4
    conv => lhs; rw [h4]
    simp [mm_rv]
  have harr : (((st.take (tb_na z)).reverse).map (mm_rv P)).toArray = (Value.ref (mm_ad P a) :: ((st.take (tb_na z - 1)).reverse).map (mm_rv P)).toArray := by rw [hrev]; rfl
  have hdc : decode c.code pc = .ok (.invokevirtual k, 3) := by rw [C.1.2.1]; exact (mm_dec hc).1
  have hobj : ∀ z', cell.vm ≠ .statics z' := fun z' q => by rw [e3] at q; cases q
  have hcell : T.heap[mm_ad P a]? = some cell := by rw [hT]; exact e1
  have hstep : ∃ vm', Stand p l e R s m args below meth c (T.setVm vm') locs cells slots ∧ ∀ target, (∀ acts, Steps p.tables e below (doInvoke e ((T.setVm vm').setTop (F0 m pc lsR ((st.drop (tb_na z)).map (mm_rv P)))) acts mk (((st.take (tb_na z)).reverse).map (mm_rv P)).toArray).1 target) → Steps p.tables e below (T.setTop (F0 m pc lsR (st.map (mm_rv P)))) target := by
    rw [harr]
    cases nest with
    | true => exact X.invokevirtualNest C.1.1 C.2.1.1 (E.1 _ hw rfl args) hnamed f1 hstM hkP hkPi g3 (a := mm_ad P a) (cell := cell) hcell hobj hselP f1 habM hkP hkPi (g := F0 m pc lsR (st.map (mm_rv P))) rfl hlen hstack hdc
    | false => exact X.invokevirtual C.1.1 C.2.1.1 (E.1 _ hw rfl args) hnamed f1 hstM hkP hkPi g3 (a := mm_ad P a) (cell := cell) hcell hobj hselP f1 habM hkP hkPi (g := F0 m pc lsR (st.map (mm_rv P))) rfl hlen hstack hdc
  obtain ⟨vm', X₁, hst1⟩ := hstep
  obtain ⟨T', L, cells', slots', X', hr', hl', n1, z1, hsteps⟩ := mm_enter C h149 hok (rest := st.drop (tb_na z)) (by rw [List.length_drop]; omega) F hdc X₁ hT hr hlv.1 hl hn hzz q1 q2 q3 q4 IH
  obtain ⟨t, ht, hQ⟩ := K T' _ cells' slots' lsR X' hr' hlv hl' n1 z1
  exact ⟨t, hst1 t (fun acts => (hsteps acts).trans ht), hQ⟩
theorem sg_special {z : Nat} {res : Option Value ⊕ Nat} (C : mm_Cx P y (d + 1) p R s m meth c) (hc : tb_cod y pc = some (.invokespecial k, 3)) (hk : tb_ca y k = some z) (hz : z < 1000) (hst : tb_sta z = false) (hini : (tb_y z).name = "<init>") (hhan : tb_han.getD z [] = []) (hrt : tb_rt z = 0) (h1a : tb_na z ≤ st.length) (h1b : st.length ≤ tb_na z + 8) (hv : st[tb_na z - 1]? = some (.ref a)) (hok : mm_eok z (mm_ent z (st.take (tb_na z)).reverse) = true)
    (q1 : mm_n h1 ≤ n0 + R.cells) (q2 : mm_z h1 ≤ z0 + R.slots) (q3 : mm_n h ≤ mm_n h1) (q4 : mm_z h ≤ mm_z h1)
    (IH : ∀ (R' : Room) (s' : State) (m' : MethodId) (args' : Array Value) (below' : List Frame) (meth' : Method) (c' : Code), mm_Cx P z d p R' s' m' meth' c' → mm_n h1 ≤ mm_n h + R'.cells → mm_z h1 ≤ mm_z h + R'.slots → mm_G P z (mm_n h) (mm_z h) p l e R' s' m' args' below' meth' c' (mm_fin P s' below' (mm_n h) (mm_z h) res h1) 0 (mm_ent z (st.take (tb_na z)).reverse) [] h)
    (K : mm_K P y n0 z0 p l e R s m args below meth c Q pc ls (st.drop (tb_na z)) res h1) : mm_G P y n0 z0 p l e R s m args below meth c Q pc ls st h := by
  intro H locs cells slots lsR hr hlv hl hn hzz T hT X
  have E := C.2.1.2.2.2
  obtain ⟨h0, nest, hw⟩ := mm_ca_spec hk hz
  have h149 := mm_ca_lt hk hz
  obtain ⟨mk, methk, ck, F⟩ := mm_callee E h0 h149
  have F' := F
  obtain ⟨hnamed, f1, f2, f3, f4, f5, f6, f7, f8, f9, f10⟩ := F'
  obtain ⟨g1, g2, g3, g4⟩ := mm_plain h149
  have hokM := mm_okM h0 h149
  unfold tb_okM at hokM
  simp only [hst, Bool.false_eq_true, if_false, Bool.and_eq_true, decide_eq_true_eq] at hokM
  have hinst := E.1 _ (List.mem_of_getElem? hokM.1) rfl args
  have hcode : (Cond.code (tb_y z) (tb_byt.getD z ⟨#[]⟩) (tb_nL z) none).before args s = true := by
    have hmem := mm_mem h0 h149
    have e0 : tb_cw z = .code (tb_y z) (tb_byt.getD z ⟨#[]⟩) (tb_nL z) none := by
      unfold tb_cw
      rw [hhan]
      have : tb_rty z = none := by unfold tb_rty; rw [hrt]; rfl
      simp [this]
    rw [e0] at hmem
    exact E.1 _ hmem rfl args
  have hna : 1 ≤ tb_na z := by
    rw [f8] at g4
    simp only [Option.map_some, hst, Bool.false_eq_true, if_false, Option.some.injEq] at g4
    omega
  have hrev : (st.take (tb_na z)).reverse = .ref a :: (st.take (tb_na z - 1)).reverse := by
    have : st.take (tb_na z) = st.take (tb_na z - 1) ++ [.ref a] := by
      have h3 : tb_na z = tb_na z - 1 + 1 := by omega
      rw [h3, List.take_succ, show tb_na z - 1 + 1 - 1 = tb_na z - 1 by omega, hv]
      rfl
    rw [this, List.reverse_append]
    rfl
  have hlen : ∀ sig, parseMethodDescriptor (tb_y z).desc = some sig → (((st.take (tb_na z - 1)).reverse).map (mm_rv P)).length = sig.parameters.length := by
    intro sig hsig
    rw [hsig] at g4
    simp only [Option.map_some, hst, Bool.false_eq_true, if_false, Option.some.injEq] at g4
    simp [List.length_take]
    omega
  have hstack : st.map (mm_rv P) = (((st.take (tb_na z - 1)).reverse).map (mm_rv P)).reverse ++ .ref (mm_ad P a) :: (st.drop (tb_na z)).map (mm_rv P) := by
    have h4 : st = (st.take (tb_na z)).reverse.reverse ++ st.drop (tb_na z) := mm_split h1a
    rw [hrev] at h4
    conv => lhs; rw [h4]
    simp [mm_rv]
  have harr : (((st.take (tb_na z)).reverse).map (mm_rv P)).toArray = (Value.ref (mm_ad P a) :: ((st.take (tb_na z - 1)).reverse).map (mm_rv P)).toArray := by rw [hrev]; rfl
  have hdc : decode c.code pc = .ok (.invokespecial k, 3) := by rw [C.1.2.1]; exact (mm_dec hc).1
  have hpl : e.platform.magicAccessors = ({} : Platform).magicAccessors := by rw [X.admits.platform]
  have hstep : ∃ vm', Stand p l e R s m args below meth c (T.setVm vm') locs cells slots ∧ ∀ target, (∀ acts, Steps p.tables e below (doInvoke e ((T.setVm vm').setTop (F0 m pc lsR ((st.drop (tb_na z)).map (mm_rv P)))) acts mk (((st.take (tb_na z)).reverse).map (mm_rv P)).toArray).1 target) → Steps p.tables e below (T.setTop (F0 m pc lsR (st.map (mm_rv P)))) target := by
    rw [harr]
    cases nest with
    | true =>
      obtain ⟨mk2, methM, cM, kP, vm₁, hn2, hmethM, hcodeM, -, hlocalsM, -, hkP, -, hW₁, hstep₁⟩ := Steps.initColdArgsNest (e := e) X.here C.1.1 X.warmed hpl C.2.1.1 hini g3 (E.1 _ hw rfl args) hinst hcode (f := F0 m pc lsR (st.map (mm_rv P))) rfl hlen hstack hdc
      cases hnamed.symm.trans hn2
      exact ⟨vm₁, X.noted hW₁, hstep₁⟩
    | false =>
      obtain ⟨mk2, methM, cM, kP, vm₁, hn2, hmethM, hcodeM, -, hlocalsM, -, hkP, -, hW₁, hstep₁⟩ := Steps.initColdArgs (e := e) X.here C.1.1 X.warmed hpl C.2.1.1 hini g3 (E.1 _ hw rfl args) hinst hcode (f := F0 m pc lsR (st.map (mm_rv P))) rfl hlen hstack hdc
      cases hnamed.symm.trans hn2
      exact ⟨vm₁, X.noted hW₁, hstep₁⟩
  obtain ⟨vm', X₁, hst1⟩ := hstep
  obtain ⟨T', L, cells', slots', X', hr', hl', n1, z1, hsteps⟩ := mm_enter C h149 hok (rest := st.drop (tb_na z)) (by rw [List.length_drop]; omega) F hdc X₁ hT hr hlv.1 hl hn hzz q1 q2 q3 q4 IH
  obtain ⟨t, ht, hQ⟩ := K T' _ cells' slots' lsR X' hr' hlv hl' n1 z1
  exact ⟨t, hst1 t (fun acts => (hsteps acts).trans ht), hQ⟩
end
end
section
/-! THE SOUNDNESS OF THE MODEL MACHINE -/
def mm_lk : ClassFile.Instr → Nat
  | .bipush _ => 2
  | .ldc _ => 2
  | .iload _ => 2
  | .lload _ => 2
  | .aload _ => 2
  | .istore _ => 2
  | .lstore _ => 2
  | .astore _ => 2
  | .newarray _ => 2
  | .sipush _ => 3
  | .ldc2_w _ => 3
  | .iinc _ _ => 3
  | .ifCond _ _ => 3
  | .if_icmp _ _ => 3
  | .ifnull _ => 3
  | .ifnonnull _ => 3
  | .goto _ => 3
  | .getfield _ => 3
  | .putfield _ => 3
  | .new _ => 3
  | .anewarray _ => 3
  | .invokestatic _ => 3
  | .invokevirtual _ => 3
  | .invokespecial _ => 3
  | .multianewarray _ _ => 4
  | .tableswitch _ _ _ _ => 0
  | _ => 1
/-- lengths; variables within the method's; what calls ask of the callee -/
def mm_ib (y : Nat) : ClassFile.Instr → Bool
  | .istore k => decide (k < tb_nL y)
  | .astore k => decide (k < tb_nL y)
  | .lstore k => decide (k + 1 < tb_nL y)
  | .istore_n k => decide ((k : Nat) < tb_nL y)
  | .astore_n k => decide ((k : Nat) < tb_nL y)
  | .lstore_n k => decide ((k : Nat) + 1 < tb_nL y)
  | .iinc k _ => decide (k < tb_nL y)
  | .invokevirtual k => match tb_ca y k with
    | some z => decide ((tb_y z).name ≠ "<init>" ∧ tb_cls z < 11)
    | none => true
  | .invokespecial k => match tb_ca y k with
    | some z => decide (z < 1000) == false || decide ((tb_y z).name = "<init>" ∧ tb_han.getD z [] = [] ∧ tb_rt z = 0)
    | none => true
  | _ => true
set_option maxRecDepth 100000 in
theorem tb_lk_all : (List.range 149).all (fun y => (tb_ins.getD y []).all (fun r => r.all (fun q => decide (mm_lk q.2.1 = q.2.2 ∨ mm_lk q.2.1 = 0) && mm_ib y q.2.1))) = true := by decide +kernel
theorem mm_lkb {y pc : Nat} {i : ClassFile.Instr} {len : Nat} (hc : tb_cod y pc = some (i, len)) : (mm_lk i = len ∨ mm_lk i = 0) ∧ mm_ib y i = true := by
  have hm := mm_lookup hc
  have hy : y < 149 := by
    rcases Nat.lt_or_ge y 149 with q | q
    · exact q
    · have : tb_ins.getD y [] = [] := by rw [List.getD_eq_getElem?_getD, List.getElem?_eq_none (by simpa [tb_ins] using q)]; rfl
      rw [this] at hm
      cases hm
  have h1 := List.all_eq_true.mp tb_lk_all y (List.mem_range.mpr hy)
  have hin : ∀ L : List (List (Nat × ClassFile.Instr × Nat)), (pc, i, len) ∈ L.getD (pc / 64) [] → L.getD (pc / 64) [] ∈ L := by
    intro L hm
    rw [List.getD_eq_getElem?_getD] at hm ⊢
    cases hq : L[pc / 64]? with
    | none => rw [hq] at hm; cases hm
    | some z => exact List.mem_of_getElem? hq
  have h2 := List.all_eq_true.mp (List.all_eq_true.mp h1 _ (hin _ hm)) _ hm
  simp only [Bool.and_eq_true, decide_eq_true_eq] at h2
  exact h2
section
variable {P : mm_P} {y d n0 z0 : Nat} {p : Program} {l : Launch} {e : Env} {R : Room} {s : State} {m : MethodId} {args : Array Value} {below : List Frame} {meth : Method} {c : Code} {Q : State → Prop} {pc k : Nat} {ls ls' st r : List Value} {h h1 : mm_H} {x x2 : Int32} {w w2 : Int64} {a b : Nat} {n off : Int}
theorem mm_out0 (C : mm_Cx P y d p R s m meth c) (hcv : mm_ncv y pc = true) : ∀ z ∈ c.exceptionTable.toList, covers z pc = false := by
  intro z hz
  have hm : (z.startPc, z.endPc, z.handlerPc, z.catchType) ∈ (tb_han.getD y []).map (fun q => (q.1, q.2.1, q.2.2.1, q.2.2.2.2)) := by
    rw [← C.2.2.1.2]
    exact List.mem_map.mpr ⟨z, hz, rfl⟩
  obtain ⟨q, hq, e1⟩ := List.mem_map.mp hm
  simp only [Prod.mk.injEq] at e1
  have h2 := List.all_eq_true.mp hcv q hq
  unfold covers
  rw [e1.1, e1.2.1] at h2
  rw [Bool.not_eq_true'] at h2
  exact h2
theorem mm_K.thr {rest : List Value} (C : mm_Cx P y d p R s m meth c) (hcv : mm_ncv y pc = true) : mm_K P y n0 z0 p l e R s m args below meth c (mm_fin P s below n0 z0 (.inr a) h1) pc ls rest (.inr a) h1 := by
  intro T' locs cells slots lsR X hr hlv hl hn hz
  obtain ⟨b1, b2, b3, b4, b5⟩ := X.leaveThrown (mm_ad P a) (g := F0 m pc lsR (rest.map (mm_rv P))) rfl rfl rfl (mm_out0 C hcv) C.2.1.2.1
  exact ⟨_, b1, b2, b3, b4, hr, locs, cells, slots, hn, hz, b5, hl⟩
theorem sg_athrow (C : mm_Cx P y d p R s m meth c) (hc : tb_cod y pc = some (.athrow, 1)) (K : mm_K P y n0 z0 p l e R s m args below meth c Q pc ls r (.inr a) h) : mm_G P y n0 z0 p l e R s m args below meth c Q pc ls (.ref a :: r) h := by
  intro H locs cells slots lsR hr hlv hl hn hz T hT X
  obtain ⟨t, ht, hQ⟩ := K T locs cells slots lsR X (by rw [hT]; exact hr) hlv hl hn hz
  refine ⟨t, ?_, hQ⟩
  have hx := C.1.1
  have hb := C.1.2.1
  have hd := (mm_dec hc).1
  generalize tb_byt.getD y ⟨#[]⟩ = bs at hb hd
  show Steps p.tables e below (T.setTop (F0 m pc lsR (.ref (mm_ad P a) :: r.map (mm_rv P)))) _
  jvm_step X.here [X.here.top, hx, hb, hd, Op.athrow.wp_sem]
  exact ht
end
end
section
/-! THE MODEL'S RUN IS THE JVM'S: by cases of the instruction, by the fuel -/
/-- OPEN (three rows on the JVM's side that are not proved yet): an exception's constructor; an array of arrays; a catch -/
def mm_OX (P : mm_P) : Prop := ∀ (y d n0 z0 : Nat) (p : Program) (l : Launch) (e : Env) (R : Room) (s : State) (m : MethodId) (args : Array Value) (below : List Frame) (meth : Method) (c : Code) (Q : State → Prop) (pc k z a : Nat) (q : UInt32) (ls r : List Value) (h : mm_H), mm_Cx P y d p R s m meth c → tb_cod y pc = some (.invokespecial k, 3) → tb_ca y k = some z → 1000 < z → (mm_s h a).1 = z - 971 → r.length ≤ 8 → mm_G P y n0 z0 p l e R s m args below meth c Q (pc + 3) ls r h → mm_G P y n0 z0 p l e R s m args below meth c Q pc ls (.float q :: .ref a :: r) h
def mm_OM (P : mm_P) : Prop := ∀ (y d n0 z0 : Nat) (p : Program) (l : Launch) (e : Env) (R : Room) (s : State) (m : MethodId) (args : Array Value) (below : List Frame) (meth : Method) (c : Code) (Q : State → Prop) (pc k : Nat) (x x2 : Int32) (ls r : List Value) (h : mm_H), mm_Cx P y d p R s m meth c → tb_cod y pc = some (.multianewarray k 2, 4) → tb_ck y k = some 26 → 0 ≤ x → x ≤ 1000 → 0 ≤ x2 → x2 ≤ 1000 → mm_n (mm_nw2 h 26 20 x.toNatClampNeg x2.toNatClampNeg) ≤ n0 + R.cells → mm_z (mm_nw2 h 26 20 x.toNatClampNeg x2.toNatClampNeg) ≤ z0 + R.slots → mm_G P y n0 z0 p l e R s m args below meth c Q (pc + 4) ls (.ref (mm_n h) :: r) (mm_nw2 h 26 20 x.toNatClampNeg x2.toNatClampNeg) → mm_G P y n0 z0 p l e R s m args below meth c Q pc ls (.int x2 :: .int x :: r) h
def mm_OC (P : mm_P) : Prop := ∀ (y d n0 z0 : Nat) (p : Program) (l : Launch) (e : Env) (R : Room) (s : State) (m : MethodId) (args : Array Value) (below : List Frame) (meth : Method) (c : Code) (Q : State → Prop) (pc pc' a : Nat) (ls rest : List Value) (h1 : mm_H), mm_Cx P y d p R s m meth c → mm_hnd y pc (mm_s h1 a).1 = some pc' → mm_G P y n0 z0 p l e R s m args below meth c Q pc' ls [.ref a] h1 → mm_K P y n0 z0 p l e R s m args below meth c Q pc ls rest (.inr a) h1
set_option maxHeartbeats 4000000 in
theorem sim_go {y pc len pc' : Nat} {i : ClassFile.Instr} {ls st ls' st' : List Value} {h h' : mm_H} (hc : tb_cod y pc = some (i, len)) (ha : mm_act y pc i ls st h = some (.inl (pc', ls', st', h'))) :
    (mm_n h ≤ mm_n h' ∧ mm_z h ≤ mm_z h') ∧ ∀ (P : mm_P) (d n0 z0 : Nat) (p : Program) (l : Launch) (e : Env) (R : Room) (s : State) (m : MethodId) (args : Array Value) (below : List Frame) (meth : Method) (c : Code) (Q : State → Prop), mm_OX P → mm_OM P → mm_Cx P y d p R s m meth c → mm_n h' ≤ n0 + R.cells → mm_z h' ≤ z0 + R.slots → mm_G P y n0 z0 p l e R s m args below meth c Q pc' ls' st' h' → mm_G P y n0 z0 p l e R s m args below meth c Q pc ls st h := by
  obtain ⟨hlen, hib⟩ := mm_lkb hc
  cases i with
  | iconst n =>
    obtain rfl : len = 1 := by simp only [mm_lk] at hlen; omega
    simp only [mm_act, mm_go, Option.some.injEq, Sum.inl.injEq, Prod.mk.injEq] at ha
    obtain ⟨rfl, rfl, rfl, rfl⟩ := ha
    refine ⟨⟨Nat.le_refl _, Nat.le_refl _⟩, fun P d n0 z0 p l e R s m args below meth c Q ox om C r1 r2 K => ?_⟩
    exact sg_iconst C hc K
  | bipush n =>
    obtain rfl : len = 2 := by simp only [mm_lk] at hlen; omega
    simp only [mm_act, mm_go, Option.some.injEq, Sum.inl.injEq, Prod.mk.injEq] at ha
    obtain ⟨rfl, rfl, rfl, rfl⟩ := ha
    refine ⟨⟨Nat.le_refl _, Nat.le_refl _⟩, fun P d n0 z0 p l e R s m args below meth c Q ox om C r1 r2 K => ?_⟩
    exact sg_bipush C hc K
  | sipush n =>
    obtain rfl : len = 3 := by simp only [mm_lk] at hlen; omega
    simp only [mm_act, mm_go, Option.some.injEq, Sum.inl.injEq, Prod.mk.injEq] at ha
    obtain ⟨rfl, rfl, rfl, rfl⟩ := ha
    refine ⟨⟨Nat.le_refl _, Nat.le_refl _⟩, fun P d n0 z0 p l e R s m args below meth c Q ox om C r1 r2 K => ?_⟩
    exact sg_sipush C hc K
  | lconst n =>
    obtain rfl : len = 1 := by simp only [mm_lk] at hlen; omega
    simp only [mm_act, mm_go, Option.some.injEq, Sum.inl.injEq, Prod.mk.injEq] at ha
    obtain ⟨rfl, rfl, rfl, rfl⟩ := ha
    refine ⟨⟨Nat.le_refl _, Nat.le_refl _⟩, fun P d n0 z0 p l e R s m args below meth c Q ox om C r1 r2 K => ?_⟩
    exact sg_lconst C hc K
  | aconst_null =>
    obtain rfl : len = 1 := by simp only [mm_lk] at hlen; omega
    simp only [mm_act, mm_go, Option.some.injEq, Sum.inl.injEq, Prod.mk.injEq] at ha
    obtain ⟨rfl, rfl, rfl, rfl⟩ := ha
    refine ⟨⟨Nat.le_refl _, Nat.le_refl _⟩, fun P d n0 z0 p l e R s m args below meth c Q ox om C r1 r2 K => ?_⟩
    exact sg_null C hc K
  | ldc k =>
    obtain rfl : len = 2 := by simp only [mm_lk] at hlen; omega
    simp only [mm_act] at ha
    cases hci : tb_ci y k with
    | some v =>
      simp only [hci, mm_go, Option.some.injEq, Sum.inl.injEq, Prod.mk.injEq] at ha
      obtain ⟨rfl, rfl, rfl, rfl⟩ := ha
      refine ⟨⟨Nat.le_refl _, Nat.le_refl _⟩, fun P d n0 z0 p l e R s m args below meth c Q ox om C r1 r2 K => ?_⟩
      exact sg_ldcI C hc hci K
    | none =>
      cases hcs : tb_cs y k with
      | some q =>
        simp only [hci, hcs, mm_go, Option.some.injEq, Sum.inl.injEq, Prod.mk.injEq] at ha
        obtain ⟨rfl, rfl, rfl, rfl⟩ := ha
        refine ⟨⟨Nat.le_refl _, Nat.le_refl _⟩, fun P d n0 z0 p l e R s m args below meth c Q ox om C r1 r2 K => ?_⟩
        exact sg_ldcS C hc hcs K
      | none => simp [hci, hcs] at ha
  | ldc2_w k =>
    obtain rfl : len = 3 := by simp only [mm_lk] at hlen; omega
    simp only [mm_act] at ha
    cases hci : tb_cl2 y k with
    | some v =>
      simp only [hci, mm_go, Option.some.injEq, Sum.inl.injEq, Prod.mk.injEq] at ha
      obtain ⟨rfl, rfl, rfl, rfl⟩ := ha
      refine ⟨⟨Nat.le_refl _, Nat.le_refl _⟩, fun P d n0 z0 p l e R s m args below meth c Q ox om C r1 r2 K => ?_⟩
      exact sg_ldc2 C hc hci K
    | none => simp [hci] at ha
  | iload k =>
    obtain rfl : len = 2 := by simp only [mm_lk] at hlen; omega
    simp only [mm_act] at ha
    split at ha
    · rename_i hk
      simp only [mm_go, Option.some.injEq, Sum.inl.injEq, Prod.mk.injEq] at ha
      obtain ⟨rfl, rfl, rfl, rfl⟩ := ha
      refine ⟨⟨Nat.le_refl _, Nat.le_refl _⟩, fun P d n0 z0 p l e R s m args below meth c Q ox om C r1 r2 K => ?_⟩
      exact sg_iload C hc hk K
    · cases ha
  | iload_n k =>
    obtain rfl : len = 1 := by simp only [mm_lk] at hlen; omega
    simp only [mm_act] at ha
    split at ha
    · rename_i hk
      simp only [mm_go, Option.some.injEq, Sum.inl.injEq, Prod.mk.injEq] at ha
      obtain ⟨rfl, rfl, rfl, rfl⟩ := ha
      refine ⟨⟨Nat.le_refl _, Nat.le_refl _⟩, fun P d n0 z0 p l e R s m args below meth c Q ox om C r1 r2 K => ?_⟩
      exact sg_iload_n C hc hk K
    · cases ha
  | lload k =>
    obtain rfl : len = 2 := by simp only [mm_lk] at hlen; omega
    simp only [mm_act] at ha
    split at ha
    · rename_i hk
      simp only [mm_go, Option.some.injEq, Sum.inl.injEq, Prod.mk.injEq] at ha
      obtain ⟨rfl, rfl, rfl, rfl⟩ := ha
      refine ⟨⟨Nat.le_refl _, Nat.le_refl _⟩, fun P d n0 z0 p l e R s m args below meth c Q ox om C r1 r2 K => ?_⟩
      exact sg_lload C hc hk K
    · cases ha
  | lload_n k =>
    obtain rfl : len = 1 := by simp only [mm_lk] at hlen; omega
    simp only [mm_act] at ha
    split at ha
    · rename_i hk
      simp only [mm_go, Option.some.injEq, Sum.inl.injEq, Prod.mk.injEq] at ha
      obtain ⟨rfl, rfl, rfl, rfl⟩ := ha
      refine ⟨⟨Nat.le_refl _, Nat.le_refl _⟩, fun P d n0 z0 p l e R s m args below meth c Q ox om C r1 r2 K => ?_⟩
      exact sg_lload_n C hc hk K
    · cases ha
  | aload k =>
    obtain rfl : len = 2 := by simp only [mm_lk] at hlen; omega
    simp only [mm_act] at ha
    split at ha
    · rename_i hk
      simp only [mm_go, Option.some.injEq, Sum.inl.injEq, Prod.mk.injEq] at ha
      obtain ⟨rfl, rfl, rfl, rfl⟩ := ha
      refine ⟨⟨Nat.le_refl _, Nat.le_refl _⟩, fun P d n0 z0 p l e R s m args below meth c Q ox om C r1 r2 K => ?_⟩
      exact sg_aload C hc hk K
    · rename_i hk
      simp only [mm_go, Option.some.injEq, Sum.inl.injEq, Prod.mk.injEq] at ha
      obtain ⟨rfl, rfl, rfl, rfl⟩ := ha
      refine ⟨⟨Nat.le_refl _, Nat.le_refl _⟩, fun P d n0 z0 p l e R s m args below meth c Q ox om C r1 r2 K => ?_⟩
      exact sg_aloadN C hc hk K
    · cases ha
  | aload_n k =>
    obtain rfl : len = 1 := by simp only [mm_lk] at hlen; omega
    simp only [mm_act] at ha
    split at ha
    · rename_i hk
      simp only [mm_go, Option.some.injEq, Sum.inl.injEq, Prod.mk.injEq] at ha
      obtain ⟨rfl, rfl, rfl, rfl⟩ := ha
      refine ⟨⟨Nat.le_refl _, Nat.le_refl _⟩, fun P d n0 z0 p l e R s m args below meth c Q ox om C r1 r2 K => ?_⟩
      exact sg_aload_n C hc hk K
    · rename_i hk
      simp only [mm_go, Option.some.injEq, Sum.inl.injEq, Prod.mk.injEq] at ha
      obtain ⟨rfl, rfl, rfl, rfl⟩ := ha
      refine ⟨⟨Nat.le_refl _, Nat.le_refl _⟩, fun P d n0 z0 p l e R s m args below meth c Q ox om C r1 r2 K => ?_⟩
      exact sg_aload_nN C hc hk K
    · cases ha
  | istore k =>
    obtain rfl : len = 2 := by simp only [mm_lk] at hlen; omega
    simp only [mm_ib, decide_eq_true_eq] at hib
    simp only [mm_act] at ha
    split at ha
    · rw [Option.bind_eq_some_iff] at ha
      obtain ⟨ls2, hk, ha⟩ := ha
      simp only [mm_go, Option.some.injEq, Sum.inl.injEq, Prod.mk.injEq] at ha
      obtain ⟨rfl, rfl, rfl, rfl⟩ := ha
      refine ⟨⟨Nat.le_refl _, Nat.le_refl _⟩, fun P d n0 z0 p l e R s m args below meth c Q ox om C r1 r2 K => ?_⟩
      exact sg_istore C hc hib hk K
    · cases ha
  | istore_n k =>
    obtain rfl : len = 1 := by simp only [mm_lk] at hlen; omega
    simp only [mm_ib, decide_eq_true_eq] at hib
    simp only [mm_act] at ha
    split at ha
    · rw [Option.bind_eq_some_iff] at ha
      obtain ⟨ls2, hk, ha⟩ := ha
      simp only [mm_go, Option.some.injEq, Sum.inl.injEq, Prod.mk.injEq] at ha
      obtain ⟨rfl, rfl, rfl, rfl⟩ := ha
      refine ⟨⟨Nat.le_refl _, Nat.le_refl _⟩, fun P d n0 z0 p l e R s m args below meth c Q ox om C r1 r2 K => ?_⟩
      exact sg_istore_n C hc hib hk K
    · cases ha
  | lstore k =>
    obtain rfl : len = 2 := by simp only [mm_lk] at hlen; omega
    simp only [mm_ib, decide_eq_true_eq] at hib
    simp only [mm_act] at ha
    split at ha
    · rw [Option.bind_eq_some_iff] at ha
      obtain ⟨ls2, hk, ha⟩ := ha
      simp only [mm_go, Option.some.injEq, Sum.inl.injEq, Prod.mk.injEq] at ha
      obtain ⟨rfl, rfl, rfl, rfl⟩ := ha
      refine ⟨⟨Nat.le_refl _, Nat.le_refl _⟩, fun P d n0 z0 p l e R s m args below meth c Q ox om C r1 r2 K => ?_⟩
      exact sg_lstore C hc hib hk K
    · cases ha
  | lstore_n k =>
    obtain rfl : len = 1 := by simp only [mm_lk] at hlen; omega
    simp only [mm_ib, decide_eq_true_eq] at hib
    simp only [mm_act] at ha
    split at ha
    · rw [Option.bind_eq_some_iff] at ha
      obtain ⟨ls2, hk, ha⟩ := ha
      simp only [mm_go, Option.some.injEq, Sum.inl.injEq, Prod.mk.injEq] at ha
      obtain ⟨rfl, rfl, rfl, rfl⟩ := ha
      refine ⟨⟨Nat.le_refl _, Nat.le_refl _⟩, fun P d n0 z0 p l e R s m args below meth c Q ox om C r1 r2 K => ?_⟩
      exact sg_lstore_n C hc hib hk K
    · cases ha
  | astore k =>
    obtain rfl : len = 2 := by simp only [mm_lk] at hlen; omega
    simp only [mm_ib, decide_eq_true_eq] at hib
    simp only [mm_act] at ha
    split at ha
    · rw [Option.bind_eq_some_iff] at ha
      obtain ⟨ls2, hk, ha⟩ := ha
      simp only [mm_go, Option.some.injEq, Sum.inl.injEq, Prod.mk.injEq] at ha
      obtain ⟨rfl, rfl, rfl, rfl⟩ := ha
      refine ⟨⟨Nat.le_refl _, Nat.le_refl _⟩, fun P d n0 z0 p l e R s m args below meth c Q ox om C r1 r2 K => ?_⟩
      exact sg_astore C hc hib hk K
    · rw [Option.bind_eq_some_iff] at ha
      obtain ⟨ls2, hk, ha⟩ := ha
      simp only [mm_go, Option.some.injEq, Sum.inl.injEq, Prod.mk.injEq] at ha
      obtain ⟨rfl, rfl, rfl, rfl⟩ := ha
      refine ⟨⟨Nat.le_refl _, Nat.le_refl _⟩, fun P d n0 z0 p l e R s m args below meth c Q ox om C r1 r2 K => ?_⟩
      exact sg_astoreN C hc hib hk K
    · cases ha
  | astore_n k =>
    obtain rfl : len = 1 := by simp only [mm_lk] at hlen; omega
    simp only [mm_ib, decide_eq_true_eq] at hib
    simp only [mm_act] at ha
    split at ha
    · rw [Option.bind_eq_some_iff] at ha
      obtain ⟨ls2, hk, ha⟩ := ha
      simp only [mm_go, Option.some.injEq, Sum.inl.injEq, Prod.mk.injEq] at ha
      obtain ⟨rfl, rfl, rfl, rfl⟩ := ha
      refine ⟨⟨Nat.le_refl _, Nat.le_refl _⟩, fun P d n0 z0 p l e R s m args below meth c Q ox om C r1 r2 K => ?_⟩
      exact sg_astore_n C hc hib hk K
    · rw [Option.bind_eq_some_iff] at ha
      obtain ⟨ls2, hk, ha⟩ := ha
      simp only [mm_go, Option.some.injEq, Sum.inl.injEq, Prod.mk.injEq] at ha
      obtain ⟨rfl, rfl, rfl, rfl⟩ := ha
      refine ⟨⟨Nat.le_refl _, Nat.le_refl _⟩, fun P d n0 z0 p l e R s m args below meth c Q ox om C r1 r2 K => ?_⟩
      exact sg_astore_nN C hc hib hk K
    · cases ha
  | iinc k n =>
    obtain rfl : len = 3 := by simp only [mm_lk] at hlen; omega
    simp only [mm_ib, decide_eq_true_eq] at hib
    simp only [mm_act] at ha
    split at ha
    · rename_i hx
      rw [Option.bind_eq_some_iff] at ha
      obtain ⟨ls2, hk, ha⟩ := ha
      simp only [mm_go, Option.some.injEq, Sum.inl.injEq, Prod.mk.injEq] at ha
      obtain ⟨rfl, rfl, rfl, rfl⟩ := ha
      refine ⟨⟨Nat.le_refl _, Nat.le_refl _⟩, fun P d n0 z0 p l e R s m args below meth c Q ox om C r1 r2 K => ?_⟩
      exact sg_iinc C hc hib hx hk K
    · cases ha
  | iadd =>
    obtain rfl : len = 1 := by simp only [mm_lk] at hlen; omega
    simp only [mm_act] at ha
    split at ha
    · simp only [mm_go, Option.some.injEq, Sum.inl.injEq, Prod.mk.injEq] at ha
      obtain ⟨rfl, rfl, rfl, rfl⟩ := ha
      refine ⟨⟨Nat.le_refl _, Nat.le_refl _⟩, fun P d n0 z0 p l e R s m args below meth c Q ox om C r1 r2 K => ?_⟩
      exact sg_iadd C hc K
    · cases ha
  | isub =>
    obtain rfl : len = 1 := by simp only [mm_lk] at hlen; omega
    simp only [mm_act] at ha
    split at ha
    · simp only [mm_go, Option.some.injEq, Sum.inl.injEq, Prod.mk.injEq] at ha
      obtain ⟨rfl, rfl, rfl, rfl⟩ := ha
      refine ⟨⟨Nat.le_refl _, Nat.le_refl _⟩, fun P d n0 z0 p l e R s m args below meth c Q ox om C r1 r2 K => ?_⟩
      exact sg_isub C hc K
    · cases ha
  | imul =>
    obtain rfl : len = 1 := by simp only [mm_lk] at hlen; omega
    simp only [mm_act] at ha
    split at ha
    · simp only [mm_go, Option.some.injEq, Sum.inl.injEq, Prod.mk.injEq] at ha
      obtain ⟨rfl, rfl, rfl, rfl⟩ := ha
      refine ⟨⟨Nat.le_refl _, Nat.le_refl _⟩, fun P d n0 z0 p l e R s m args below meth c Q ox om C r1 r2 K => ?_⟩
      exact sg_imul C hc K
    · cases ha
  | iand =>
    obtain rfl : len = 1 := by simp only [mm_lk] at hlen; omega
    simp only [mm_act] at ha
    split at ha
    · simp only [mm_go, Option.some.injEq, Sum.inl.injEq, Prod.mk.injEq] at ha
      obtain ⟨rfl, rfl, rfl, rfl⟩ := ha
      refine ⟨⟨Nat.le_refl _, Nat.le_refl _⟩, fun P d n0 z0 p l e R s m args below meth c Q ox om C r1 r2 K => ?_⟩
      exact sg_iand C hc K
    · cases ha
  | ladd =>
    obtain rfl : len = 1 := by simp only [mm_lk] at hlen; omega
    simp only [mm_act] at ha
    split at ha
    · simp only [mm_go, Option.some.injEq, Sum.inl.injEq, Prod.mk.injEq] at ha
      obtain ⟨rfl, rfl, rfl, rfl⟩ := ha
      refine ⟨⟨Nat.le_refl _, Nat.le_refl _⟩, fun P d n0 z0 p l e R s m args below meth c Q ox om C r1 r2 K => ?_⟩
      exact sg_ladd C hc K
    · cases ha
  | lmul =>
    obtain rfl : len = 1 := by simp only [mm_lk] at hlen; omega
    simp only [mm_act] at ha
    split at ha
    · simp only [mm_go, Option.some.injEq, Sum.inl.injEq, Prod.mk.injEq] at ha
      obtain ⟨rfl, rfl, rfl, rfl⟩ := ha
      refine ⟨⟨Nat.le_refl _, Nat.le_refl _⟩, fun P d n0 z0 p l e R s m args below meth c Q ox om C r1 r2 K => ?_⟩
      exact sg_lmul C hc K
    · cases ha
  | lneg =>
    obtain rfl : len = 1 := by simp only [mm_lk] at hlen; omega
    simp only [mm_act] at ha
    split at ha
    · simp only [mm_go, Option.some.injEq, Sum.inl.injEq, Prod.mk.injEq] at ha
      obtain ⟨rfl, rfl, rfl, rfl⟩ := ha
      refine ⟨⟨Nat.le_refl _, Nat.le_refl _⟩, fun P d n0 z0 p l e R s m args below meth c Q ox om C r1 r2 K => ?_⟩
      exact sg_lneg C hc K
    · cases ha
  | i2l =>
    obtain rfl : len = 1 := by simp only [mm_lk] at hlen; omega
    simp only [mm_act] at ha
    split at ha
    · simp only [mm_go, Option.some.injEq, Sum.inl.injEq, Prod.mk.injEq] at ha
      obtain ⟨rfl, rfl, rfl, rfl⟩ := ha
      refine ⟨⟨Nat.le_refl _, Nat.le_refl _⟩, fun P d n0 z0 p l e R s m args below meth c Q ox om C r1 r2 K => ?_⟩
      exact sg_i2l C hc K
    · cases ha
  | l2i =>
    obtain rfl : len = 1 := by simp only [mm_lk] at hlen; omega
    simp only [mm_act] at ha
    split at ha
    · simp only [mm_go, Option.some.injEq, Sum.inl.injEq, Prod.mk.injEq] at ha
      obtain ⟨rfl, rfl, rfl, rfl⟩ := ha
      refine ⟨⟨Nat.le_refl _, Nat.le_refl _⟩, fun P d n0 z0 p l e R s m args below meth c Q ox om C r1 r2 K => ?_⟩
      exact sg_l2i C hc K
    · cases ha
  | lcmp =>
    obtain rfl : len = 1 := by simp only [mm_lk] at hlen; omega
    simp only [mm_act] at ha
    split at ha
    · simp only [mm_go, Option.some.injEq, Sum.inl.injEq, Prod.mk.injEq] at ha
      obtain ⟨rfl, rfl, rfl, rfl⟩ := ha
      refine ⟨⟨Nat.le_refl _, Nat.le_refl _⟩, fun P d n0 z0 p l e R s m args below meth c Q ox om C r1 r2 K => ?_⟩
      exact sg_lcmp C hc K
    · cases ha
  | dup =>
    obtain rfl : len = 1 := by simp only [mm_lk] at hlen; omega
    simp only [mm_act] at ha
    split at ha
    · simp only [mm_go, Option.some.injEq, Sum.inl.injEq, Prod.mk.injEq] at ha
      obtain ⟨rfl, rfl, rfl, rfl⟩ := ha
      refine ⟨⟨Nat.le_refl _, Nat.le_refl _⟩, fun P d n0 z0 p l e R s m args below meth c Q ox om C r1 r2 K => ?_⟩
      exact sg_dupI C hc K
    · simp only [mm_go, Option.some.injEq, Sum.inl.injEq, Prod.mk.injEq] at ha
      obtain ⟨rfl, rfl, rfl, rfl⟩ := ha
      refine ⟨⟨Nat.le_refl _, Nat.le_refl _⟩, fun P d n0 z0 p l e R s m args below meth c Q ox om C r1 r2 K => ?_⟩
      exact sg_dupR C hc K
    · cases ha
  | pop =>
    obtain rfl : len = 1 := by simp only [mm_lk] at hlen; omega
    simp only [mm_act] at ha
    split at ha
    · simp only [mm_go, Option.some.injEq, Sum.inl.injEq, Prod.mk.injEq] at ha
      obtain ⟨rfl, rfl, rfl, rfl⟩ := ha
      refine ⟨⟨Nat.le_refl _, Nat.le_refl _⟩, fun P d n0 z0 p l e R s m args below meth c Q ox om C r1 r2 K => ?_⟩
      exact sg_popI C hc K
    · simp only [mm_go, Option.some.injEq, Sum.inl.injEq, Prod.mk.injEq] at ha
      obtain ⟨rfl, rfl, rfl, rfl⟩ := ha
      refine ⟨⟨Nat.le_refl _, Nat.le_refl _⟩, fun P d n0 z0 p l e R s m args below meth c Q ox om C r1 r2 K => ?_⟩
      exact sg_popR C hc K
    · cases ha
  | dup2 =>
    obtain rfl : len = 1 := by simp only [mm_lk] at hlen; omega
    simp only [mm_act] at ha
    split at ha
    · simp only [mm_go, Option.some.injEq, Sum.inl.injEq, Prod.mk.injEq] at ha
      obtain ⟨rfl, rfl, rfl, rfl⟩ := ha
      refine ⟨⟨Nat.le_refl _, Nat.le_refl _⟩, fun P d n0 z0 p l e R s m args below meth c Q ox om C r1 r2 K => ?_⟩
      exact sg_dup2 C hc K
    · cases ha
  | ifnull off =>
    obtain rfl : len = 3 := by simp only [mm_lk] at hlen; omega
    simp only [mm_act] at ha
    split at ha
    · simp only [mm_go, Option.some.injEq, Sum.inl.injEq, Prod.mk.injEq] at ha
      obtain ⟨rfl, rfl, rfl, rfl⟩ := ha
      refine ⟨⟨Nat.le_refl _, Nat.le_refl _⟩, fun P d n0 z0 p l e R s m args below meth c Q ox om C r1 r2 K => ?_⟩
      exact sg_ifnullN C hc K
    · simp only [mm_go, Option.some.injEq, Sum.inl.injEq, Prod.mk.injEq] at ha
      obtain ⟨rfl, rfl, rfl, rfl⟩ := ha
      refine ⟨⟨Nat.le_refl _, Nat.le_refl _⟩, fun P d n0 z0 p l e R s m args below meth c Q ox om C r1 r2 K => ?_⟩
      exact sg_ifnull C hc K
    · cases ha
  | ifnonnull off =>
    obtain rfl : len = 3 := by simp only [mm_lk] at hlen; omega
    simp only [mm_act] at ha
    split at ha
    · simp only [mm_go, Option.some.injEq, Sum.inl.injEq, Prod.mk.injEq] at ha
      obtain ⟨rfl, rfl, rfl, rfl⟩ := ha
      refine ⟨⟨Nat.le_refl _, Nat.le_refl _⟩, fun P d n0 z0 p l e R s m args below meth c Q ox om C r1 r2 K => ?_⟩
      exact sg_ifnonnullN C hc K
    · simp only [mm_go, Option.some.injEq, Sum.inl.injEq, Prod.mk.injEq] at ha
      obtain ⟨rfl, rfl, rfl, rfl⟩ := ha
      refine ⟨⟨Nat.le_refl _, Nat.le_refl _⟩, fun P d n0 z0 p l e R s m args below meth c Q ox om C r1 r2 K => ?_⟩
      exact sg_ifnonnull C hc K
    · cases ha
  | goto off =>
    obtain rfl : len = 3 := by simp only [mm_lk] at hlen; omega
    simp only [mm_act, mm_go, Option.some.injEq, Sum.inl.injEq, Prod.mk.injEq] at ha
    obtain ⟨rfl, rfl, rfl, rfl⟩ := ha
    refine ⟨⟨Nat.le_refl _, Nat.le_refl _⟩, fun P d n0 z0 p l e R s m args below meth c Q ox om C r1 r2 K => ?_⟩
    exact sg_goto C hc K
  | idiv =>
    obtain rfl : len = 1 := by simp only [mm_lk] at hlen; omega
    simp only [mm_act] at ha
    split at ha
    · unfold mm_if at ha
      split at ha
      · rename_i hg
        simp only [mm_go, Option.some.injEq, Sum.inl.injEq, Prod.mk.injEq] at ha
        obtain ⟨rfl, rfl, rfl, rfl⟩ := ha
        refine ⟨⟨Nat.le_refl _, Nat.le_refl _⟩, fun P d n0 z0 p l e R s m args below meth c Q ox om C r1 r2 K => ?_⟩
        exact sg_idiv C hc hg K
      · cases ha
    · cases ha
  | irem =>
    obtain rfl : len = 1 := by simp only [mm_lk] at hlen; omega
    simp only [mm_act] at ha
    split at ha
    · unfold mm_if at ha
      split at ha
      · rename_i hg
        simp only [mm_go, Option.some.injEq, Sum.inl.injEq, Prod.mk.injEq] at ha
        obtain ⟨rfl, rfl, rfl, rfl⟩ := ha
        refine ⟨⟨Nat.le_refl _, Nat.le_refl _⟩, fun P d n0 z0 p l e R s m args below meth c Q ox om C r1 r2 K => ?_⟩
        exact sg_irem C hc hg K
      · cases ha
    · cases ha
  | ldiv =>
    obtain rfl : len = 1 := by simp only [mm_lk] at hlen; omega
    simp only [mm_act] at ha
    split at ha
    · unfold mm_if at ha
      split at ha
      · rename_i hg
        simp only [mm_go, Option.some.injEq, Sum.inl.injEq, Prod.mk.injEq] at ha
        obtain ⟨rfl, rfl, rfl, rfl⟩ := ha
        refine ⟨⟨Nat.le_refl _, Nat.le_refl _⟩, fun P d n0 z0 p l e R s m args below meth c Q ox om C r1 r2 K => ?_⟩
        exact sg_ldiv C hc hg K
      · cases ha
    · cases ha
  | lrem =>
    obtain rfl : len = 1 := by simp only [mm_lk] at hlen; omega
    simp only [mm_act] at ha
    split at ha
    · unfold mm_if at ha
      split at ha
      · rename_i hg
        simp only [mm_go, Option.some.injEq, Sum.inl.injEq, Prod.mk.injEq] at ha
        obtain ⟨rfl, rfl, rfl, rfl⟩ := ha
        refine ⟨⟨Nat.le_refl _, Nat.le_refl _⟩, fun P d n0 z0 p l e R s m args below meth c Q ox om C r1 r2 K => ?_⟩
        exact sg_lrem C hc hg K
      · cases ha
    · cases ha
  | ifCond cd off =>
    obtain rfl : len = 3 := by simp only [mm_lk] at hlen; omega
    simp only [mm_act] at ha
    split at ha
    · simp only [mm_go, Option.some.injEq, Sum.inl.injEq, Prod.mk.injEq] at ha
      obtain ⟨rfl, rfl, rfl, rfl⟩ := ha
      refine ⟨⟨Nat.le_refl _, Nat.le_refl _⟩, fun P d n0 z0 p l e R s m args below meth c Q ox om C r1 r2 K => ?_⟩
      cases cd with
      | eq => exact sg_if_eq C hc K
      | ne => exact sg_if_ne C hc K
      | lt => exact sg_if_lt C hc K
      | ge => exact sg_if_ge C hc K
      | gt => exact sg_if_gt C hc K
      | le => exact sg_if_le C hc K
    · cases ha
  | if_icmp cd off =>
    obtain rfl : len = 3 := by simp only [mm_lk] at hlen; omega
    simp only [mm_act] at ha
    split at ha
    · simp only [mm_go, Option.some.injEq, Sum.inl.injEq, Prod.mk.injEq] at ha
      obtain ⟨rfl, rfl, rfl, rfl⟩ := ha
      refine ⟨⟨Nat.le_refl _, Nat.le_refl _⟩, fun P d n0 z0 p l e R s m args below meth c Q ox om C r1 r2 K => ?_⟩
      cases cd with
      | eq => exact sg_icmp_eq C hc K
      | ne => exact sg_icmp_ne C hc K
      | lt => exact sg_icmp_lt C hc K
      | ge => exact sg_icmp_ge C hc K
      | gt => exact sg_icmp_gt C hc K
      | le => exact sg_icmp_le C hc K
    · cases ha
  | tableswitch dd lo hi offs =>
    simp only [mm_act] at ha
    split at ha
    · simp only [mm_go, Option.some.injEq, Sum.inl.injEq, Prod.mk.injEq] at ha
      obtain ⟨rfl, rfl, rfl, rfl⟩ := ha
      refine ⟨⟨Nat.le_refl _, Nat.le_refl _⟩, fun P d n0 z0 p l e R s m args below meth c Q ox om C r1 r2 K => ?_⟩
      exact sg_table C hc K
    · cases ha
  | getfield k =>
    obtain rfl : len = 3 := by simp only [mm_lk] at hlen; omega
    simp only [mm_act] at ha
    split at ha
    · rename_i hf
      unfold mm_if at ha
      split at ha
      · rename_i hg
        simp only [mm_go, Option.some.injEq, Sum.inl.injEq, Prod.mk.injEq] at ha
        obtain ⟨rfl, rfl, rfl, rfl⟩ := ha
        refine ⟨⟨Nat.le_refl _, Nat.le_refl _⟩, fun P d n0 z0 p l e R s m args below meth c Q ox om C r1 r2 K => ?_⟩
        refine sg_get C hc hf hg ?_ K
        unfold mm_fv
        split
        · rfl
        · split <;> rfl
      · cases ha
    · cases ha
  | putfield k =>
    obtain rfl : len = 3 := by simp only [mm_lk] at hlen; omega
    simp only [mm_act] at ha
    split at ha
    · rename_i hf
      unfold mm_if at ha
      split at ha
      · rename_i hg
        simp only [mm_go, Option.some.injEq, Sum.inl.injEq, Prod.mk.injEq] at ha
        obtain ⟨rfl, rfl, rfl, rfl⟩ := ha
        refine ⟨⟨Nat.le_refl _, Nat.le_refl _⟩, fun P d n0 z0 p l e R s m args below meth c Q ox om C r1 r2 K => ?_⟩
        exact sg_putI C hc hf hg.1 hg.2 K
      · cases ha
    · rename_i hf
      unfold mm_if at ha
      split at ha
      · rename_i hg
        simp only [mm_go, Option.some.injEq, Sum.inl.injEq, Prod.mk.injEq] at ha
        obtain ⟨rfl, rfl, rfl, rfl⟩ := ha
        refine ⟨⟨Nat.le_refl _, Nat.le_refl _⟩, fun P d n0 z0 p l e R s m args below meth c Q ox om C r1 r2 K => ?_⟩
        obtain ⟨g1, rfl⟩ := hg
        exact sg_putL C hc hf g1 K
      · cases ha
    · rename_i hf
      unfold mm_if at ha
      split at ha
      · rename_i hg
        simp only [mm_go, Option.some.injEq, Sum.inl.injEq, Prod.mk.injEq] at ha
        obtain ⟨rfl, rfl, rfl, rfl⟩ := ha
        refine ⟨⟨Nat.le_refl _, Nat.le_refl _⟩, fun P d n0 z0 p l e R s m args below meth c Q ox om C r1 r2 K => ?_⟩
        obtain ⟨g1, rfl⟩ := hg
        exact sg_putR C hc hf g1 K
      · cases ha
    · cases ha
  | iaload =>
    obtain rfl : len = 1 := by simp only [mm_lk] at hlen; omega
    simp only [mm_act] at ha
    split at ha
    · unfold mm_if at ha
      split at ha
      · rename_i hg
        simp only [mm_go, Option.some.injEq, Sum.inl.injEq, Prod.mk.injEq] at ha
        obtain ⟨rfl, rfl, rfl, rfl⟩ := ha
        refine ⟨⟨Nat.le_refl _, Nat.le_refl _⟩, fun P d n0 z0 p l e R s m args below meth c Q ox om C r1 r2 K => ?_⟩
        exact sg_iaload C hc hg.1 hg.2 K
      · cases ha
    · cases ha
  | laload =>
    obtain rfl : len = 1 := by simp only [mm_lk] at hlen; omega
    simp only [mm_act] at ha
    split at ha
    · unfold mm_if at ha
      split at ha
      · rename_i hg
        simp only [mm_go, Option.some.injEq, Sum.inl.injEq, Prod.mk.injEq] at ha
        obtain ⟨rfl, rfl, rfl, rfl⟩ := ha
        refine ⟨⟨Nat.le_refl _, Nat.le_refl _⟩, fun P d n0 z0 p l e R s m args below meth c Q ox om C r1 r2 K => ?_⟩
        exact sg_laload C hc hg.1 hg.2 K
      · cases ha
    · cases ha
  | baload =>
    obtain rfl : len = 1 := by simp only [mm_lk] at hlen; omega
    simp only [mm_act] at ha
    split at ha
    · unfold mm_if at ha
      split at ha
      · rename_i hg
        simp only [mm_go, Option.some.injEq, Sum.inl.injEq, Prod.mk.injEq] at ha
        obtain ⟨rfl, rfl, rfl, rfl⟩ := ha
        refine ⟨⟨Nat.le_refl _, Nat.le_refl _⟩, fun P d n0 z0 p l e R s m args below meth c Q ox om C r1 r2 K => ?_⟩
        exact sg_baload C hc hg.1 hg.2 K
      · cases ha
    · cases ha
  | aaload =>
    obtain rfl : len = 1 := by simp only [mm_lk] at hlen; omega
    simp only [mm_act] at ha
    split at ha
    · unfold mm_if at ha
      split at ha
      · rename_i hg
        simp only [mm_go, Option.some.injEq, Sum.inl.injEq, Prod.mk.injEq] at ha
        obtain ⟨rfl, rfl, rfl, rfl⟩ := ha
        refine ⟨⟨Nat.le_refl _, Nat.le_refl _⟩, fun P d n0 z0 p l e R s m args below meth c Q ox om C r1 r2 K => ?_⟩
        exact sg_aaload C hc rfl hg.1 hg.2.1 hg.2.2 K
      · cases ha
    · cases ha
  | iastore =>
    obtain rfl : len = 1 := by simp only [mm_lk] at hlen; omega
    simp only [mm_act] at ha
    split at ha
    · unfold mm_if at ha
      split at ha
      · rename_i hg
        simp only [mm_go, Option.some.injEq, Sum.inl.injEq, Prod.mk.injEq] at ha
        obtain ⟨rfl, rfl, rfl, rfl⟩ := ha
        refine ⟨⟨Nat.le_refl _, Nat.le_refl _⟩, fun P d n0 z0 p l e R s m args below meth c Q ox om C r1 r2 K => ?_⟩
        exact sg_iastore C hc hg.1 hg.2.1 hg.2.2 K
      · cases ha
    · cases ha
  | lastore =>
    obtain rfl : len = 1 := by simp only [mm_lk] at hlen; omega
    simp only [mm_act] at ha
    split at ha
    · unfold mm_if at ha
      split at ha
      · rename_i hg
        simp only [mm_go, Option.some.injEq, Sum.inl.injEq, Prod.mk.injEq] at ha
        obtain ⟨rfl, rfl, rfl, rfl⟩ := ha
        refine ⟨⟨Nat.le_refl _, Nat.le_refl _⟩, fun P d n0 z0 p l e R s m args below meth c Q ox om C r1 r2 K => ?_⟩
        exact sg_lastore C hc hg.1 hg.2 K
      · cases ha
    · cases ha
  | bastore =>
    obtain rfl : len = 1 := by simp only [mm_lk] at hlen; omega
    simp only [mm_act] at ha
    split at ha
    · unfold mm_if at ha
      split at ha
      · rename_i hg
        simp only [mm_go, Option.some.injEq, Sum.inl.injEq, Prod.mk.injEq] at ha
        obtain ⟨rfl, rfl, rfl, rfl⟩ := ha
        refine ⟨⟨Nat.le_refl _, Nat.le_refl _⟩, fun P d n0 z0 p l e R s m args below meth c Q ox om C r1 r2 K => ?_⟩
        exact sg_bastore C hc hg.1 hg.2.1 hg.2.2 K
      · cases ha
    · cases ha
  | aastore =>
    obtain rfl : len = 1 := by simp only [mm_lk] at hlen; omega
    simp only [mm_act] at ha
    split at ha
    · unfold mm_if at ha
      split at ha
      · rename_i hg
        simp only [mm_go, Option.some.injEq, Sum.inl.injEq, Prod.mk.injEq] at ha
        obtain ⟨rfl, rfl, rfl, rfl⟩ := ha
        refine ⟨⟨Nat.le_refl _, Nat.le_refl _⟩, fun P d n0 z0 p l e R s m args below meth c Q ox om C r1 r2 K => ?_⟩
        have E3 := C.2.1.2.2.2.2.2.1
        rcases hg with ⟨⟨g1, g2⟩ | ⟨g1, g2⟩ | ⟨g1, g2⟩, g3⟩
        · exact sg_aastore C hc g1 (by omega) (by omega) g2 (by omega) rfl E3.1.2 g3 K
        · exact sg_aastore C hc g1 (by omega) (by omega) g2 (by omega) rfl E3.2.1.2 g3 K
        · exact sg_aastore C hc g1 (by omega) (by omega) g2 (by omega) rfl E3.2.2.2 g3 K
      · cases ha
    · cases ha
  | arraylength =>
    obtain rfl : len = 1 := by simp only [mm_lk] at hlen; omega
    simp only [mm_act] at ha
    split at ha
    · unfold mm_if at ha
      split at ha
      · rename_i hg
        simp only [mm_go, Option.some.injEq, Sum.inl.injEq, Prod.mk.injEq] at ha
        obtain ⟨rfl, rfl, rfl, rfl⟩ := ha
        refine ⟨⟨Nat.le_refl _, Nat.le_refl _⟩, fun P d n0 z0 p l e R s m args below meth c Q ox om C r1 r2 K => ?_⟩
        exact sg_alen C hc rfl hg.1 hg.2 K
      · cases ha
    · cases ha
  | new k =>
    obtain rfl : len = 3 := by simp only [mm_lk] at hlen; omega
    simp only [mm_act] at ha
    cases hk : tb_ck y k with
    | none => simp [hk] at ha
    | some kd =>
      simp only [hk, mm_if] at ha
      split at ha
      · rename_i h26
        simp only [mm_go, Option.some.injEq, Sum.inl.injEq, Prod.mk.injEq] at ha
        obtain ⟨rfl, rfl, rfl, rfl⟩ := ha
        refine ⟨⟨by rw [mm_n_nw]; omega, by rw [mm_z_nw]; omega⟩, fun P d n0 z0 p l e R s m args below meth c Q ox om C r1 r2 K => ?_⟩
        exact sg_new C hc hk h26 (by rw [mm_n_nw] at r1; exact r1) (by rw [mm_z_nw] at r2; exact r2) K
      · cases ha
  | newarray ty =>
    obtain rfl : len = 2 := by simp only [mm_lk] at hlen; omega
    simp only [mm_act] at ha
    split at ha
    · unfold mm_if at ha
      split at ha
      · rename_i hg
        simp only [mm_go, Option.some.injEq, Sum.inl.injEq, Prod.mk.injEq] at ha
        obtain ⟨rfl, rfl, rfl, rfl⟩ := ha
        refine ⟨⟨by rw [mm_n_nw]; omega, by rw [mm_z_nw]; omega⟩, fun P d n0 z0 p l e R s m args below meth c Q ox om C r1 r2 K => ?_⟩
        rw [mm_n_nw] at r1
        rw [mm_z_nw] at r2
        obtain ⟨g1, g2, rfl | rfl | rfl⟩ := hg
        · exact sg_newarr C hc (Or.inl ⟨rfl, rfl⟩) g1 g2 r1 r2 K
        · exact sg_newarr C hc (Or.inr (Or.inl ⟨rfl, rfl⟩)) g1 g2 r1 r2 K
        · exact sg_newarr C hc (Or.inr (Or.inr ⟨rfl, rfl⟩)) g1 g2 r1 r2 K
      · cases ha
    · cases ha
  | anewarray k =>
    obtain rfl : len = 3 := by simp only [mm_lk] at hlen; omega
    simp only [mm_act] at ha
    split at ha
    · rename_i hk
      unfold mm_if at ha
      split at ha
      · rename_i hg
        simp only [mm_go, Option.some.injEq, Sum.inl.injEq, Prod.mk.injEq] at ha
        obtain ⟨rfl, rfl, rfl, rfl⟩ := ha
        refine ⟨⟨by rw [mm_n_nw]; omega, by rw [mm_z_nw]; omega⟩, fun P d n0 z0 p l e R s m args below meth c Q ox om C r1 r2 K => ?_⟩
        rw [mm_n_nw] at r1
        rw [mm_z_nw] at r2
        have E3 := C.2.1.2.2.2.2.2.1
        obtain ⟨g1, g2, rfl | rfl | rfl⟩ := hg
        · exact sg_anew C hc hk (by omega) rfl (by decide) (by decide) rfl E3.1.1 E3.1.2 g1 g2 r1 r2 K
        · exact sg_anew C hc hk (by omega) rfl (by decide) (by decide) rfl E3.2.1.1 E3.2.1.2 g1 g2 r1 r2 K
        · exact sg_anew C hc hk (by omega) rfl (by decide) (by decide) rfl E3.2.2.1 E3.2.2.2 g1 g2 r1 r2 K
      · cases ha
    · cases ha
  | multianewarray k dd =>
    obtain rfl : len = 4 := by simp only [mm_lk] at hlen; omega
    simp only [mm_act] at ha
    split at ha
    · rename_i hk
      unfold mm_if at ha
      split at ha
      · rename_i hg
        simp only [mm_go, Option.some.injEq, Sum.inl.injEq, Prod.mk.injEq] at ha
        obtain ⟨rfl, rfl, rfl, rfl⟩ := ha
        obtain ⟨g1, g2, g3, g4, rfl, rfl⟩ := hg
        refine ⟨⟨by show mm_n h ≤ mm_n h + 1 + _; omega, by show mm_z h ≤ mm_z h + _ + _; omega⟩, fun P d n0 z0 p l e R s m args below meth c Q ox om C r1 r2 K => ?_⟩
        exact om _ _ _ _ _ _ _ _ _ _ _ _ _ _ _ _ _ _ _ _ _ _ C hc hk g1 g2 g3 g4 r1 r2 K
      · cases ha
    · cases ha
  | invokespecial k =>
    obtain rfl : len = 3 := by simp only [mm_lk] at hlen; omega
    simp only [mm_act] at ha
    cases hk : tb_ca y k with
    | none => simp [hk] at ha
    | some z =>
      simp only [hk] at ha
      split at ha
      · rename_i hz
        subst hz
        split at ha
        · unfold mm_if at ha
          split at ha
          · rename_i hg
            simp only [mm_go, Option.some.injEq, Sum.inl.injEq, Prod.mk.injEq] at ha
            obtain ⟨rfl, rfl, rfl, rfl⟩ := ha
            refine ⟨⟨Nat.le_refl _, Nat.le_refl _⟩, fun P d n0 z0 p l e R s m args below meth c Q ox om C r1 r2 K => ?_⟩
            exact sg_objInit C hc hk hg K
          · cases ha
        · cases ha
      · split at ha
        · rename_i hz
          split at ha
          · unfold mm_if at ha
            split at ha
            · rename_i hg
              simp only [mm_go, Option.some.injEq, Sum.inl.injEq, Prod.mk.injEq] at ha
              obtain ⟨rfl, rfl, rfl, rfl⟩ := ha
              refine ⟨⟨Nat.le_refl _, Nat.le_refl _⟩, fun P d n0 z0 p l e R s m args below meth c Q ox om C r1 r2 K => ?_⟩
              exact ox _ _ _ _ _ _ _ _ _ _ _ _ _ _ _ _ _ _ _ _ _ _ _ C hc hk hz hg.1 hg.2 K
            · cases ha
          · cases ha
        · simp only [mm_if, mm_callI, mm_call] at ha
          repeat (first | cases ha | split at ha)
  | ireturn =>
    simp only [mm_act, mm_if] at ha
    repeat (first | cases ha | split at ha)
  | lreturn =>
    simp only [mm_act, mm_if] at ha
    repeat (first | cases ha | split at ha)
  | areturn =>
    simp only [mm_act, mm_if] at ha
    repeat (first | cases ha | split at ha)
  | return_ =>
    simp only [mm_act, mm_if] at ha
    repeat (first | cases ha | split at ha)
  | athrow =>
    simp only [mm_act, mm_if] at ha
    repeat (first | cases ha | split at ha)
  | invokestatic k =>
    simp only [mm_act, mm_if, mm_callV, mm_call] at ha
    repeat (first | cases ha | split at ha)
  | invokevirtual k =>
    simp only [mm_act, mm_if, mm_callV, mm_call] at ha
    repeat (first | cases ha | split at ha)
  | _ => simp [mm_act] at ha
end
section
/-! BY THE FUEL -/
set_option maxHeartbeats 4000000 in
theorem act_call {y pc z : Nat} {i : ClassFile.Instr} {ls st as rest : List Value} {h : mm_H} (ha : mm_act y pc i ls st h = some (.inr (.inl (z, as, rest)))) :
    ∃ k, tb_ca y k = some z ∧ z < 1000 ∧ (tb_na z ≤ st.length ∧ st.length ≤ tb_na z + 8) ∧ mm_eok z (mm_ent z (st.take (tb_na z)).reverse) = true ∧ as = (st.take (tb_na z)).reverse ∧ rest = st.drop (tb_na z) ∧
      (i = .invokestatic k ∧ tb_sta z = true ∨ i = .invokevirtual k ∧ tb_sta z = false ∧ (∃ a, st[tb_na z - 1]? = some (.ref a) ∧ (mm_s h a).1 = tb_cls z) ∨ i = .invokespecial k ∧ tb_sta z = false ∧ ∃ a, st[tb_na z - 1]? = some (.ref a)) := by
  cases i with
  | invokestatic k =>
    simp only [mm_act] at ha
    cases hk : tb_ca y k with
    | none => simp [hk] at ha
    | some z' =>
      simp only [hk, mm_if, mm_call] at ha
      split at ha
      · rename_i h1
        split at ha
        · rename_i h2
          simp only [Option.some.injEq, Sum.inr.injEq, Sum.inl.injEq, Prod.mk.injEq] at ha
          obtain ⟨rfl, rfl, rfl⟩ := ha
          exact ⟨k, hk, h1.1, h2.1, h2.2, rfl, rfl, Or.inl ⟨rfl, h1.2⟩⟩
        · cases ha
      · cases ha
  | invokevirtual k =>
    simp only [mm_act] at ha
    cases hk : tb_ca y k with
    | none => simp [hk] at ha
    | some z' =>
      simp only [hk, mm_if, mm_callV] at ha
      split at ha
      · rename_i h1
        split at ha
        · rename_i a hv
          split at ha
          · rename_i h3
            simp only [mm_call, mm_if] at ha
            split at ha
            · rename_i h2
              simp only [Option.some.injEq, Sum.inr.injEq, Sum.inl.injEq, Prod.mk.injEq] at ha
              obtain ⟨rfl, rfl, rfl⟩ := ha
              exact ⟨k, hk, h1.1, h2.1, h2.2, rfl, rfl, Or.inr (Or.inl ⟨rfl, h1.2, a, hv, h3⟩)⟩
            · cases ha
          · cases ha
        · cases ha
      · cases ha
  | invokespecial k =>
    simp only [mm_act] at ha
    cases hk : tb_ca y k with
    | none => simp [hk] at ha
    | some z' =>
      simp only [hk] at ha
      split at ha
      · split at ha
        · simp only [mm_if, mm_go] at ha
          split at ha <;> cases ha
        · cases ha
      · rename_i n1
        split at ha
        · split at ha
          · simp only [mm_if, mm_go] at ha
            split at ha <;> cases ha
          · cases ha
        · rename_i n2
          simp only [mm_if, mm_callI] at ha
          split at ha
          · rename_i h1
            split at ha
            · rename_i a hv
              simp only [mm_call, mm_if] at ha
              split at ha
              · rename_i h2
                simp only [Option.some.injEq, Sum.inr.injEq, Sum.inl.injEq, Prod.mk.injEq] at ha
                obtain ⟨rfl, rfl, rfl⟩ := ha
                exact ⟨k, hk, by omega, h2.1, h2.2, rfl, rfl, Or.inr (Or.inr ⟨rfl, h1, a, hv⟩)⟩
              · cases ha
            · cases ha
          · cases ha
  | _ =>
    simp only [mm_act, mm_go, mm_if] at ha
    repeat' (first | cases ha | (focus (simp [Option.bind_eq_some_iff] at ha; done)) | split at ha)
set_option maxHeartbeats 4000000 in
theorem act_ret {y pc : Nat} {i : ClassFile.Instr} {ls st : List Value} {v : Option Value} {h : mm_H} (ha : mm_act y pc i ls st h = some (.inr (.inr (.inl v)))) :
    (i = .ireturn ∧ ∃ x r, st = .int x :: r ∧ v = some (.int x) ∧ (tb_rt y = 1 ∨ tb_rt y = 3 ∧ (x = 0 ∨ x = 1))) ∨ (i = .lreturn ∧ ∃ x r, st = .long x :: r ∧ v = some (.long x) ∧ tb_rt y = 2) ∨ (i = .areturn ∧ ∃ o r, st = mm_o o :: r ∧ v = some (mm_o o) ∧ tb_rt y = 4) ∨ (i = .return_ ∧ v = none ∧ tb_rt y = 0) := by
  cases i with
  | ireturn =>
    simp only [mm_act, mm_if] at ha
    split at ha
    · split at ha
      · rename_i hg
        cases ha
        exact Or.inl ⟨rfl, _, _, rfl, rfl, hg⟩
      · cases ha
    · cases ha
  | lreturn =>
    simp only [mm_act, mm_if] at ha
    split at ha
    · split at ha
      · rename_i hg
        cases ha
        exact Or.inr (Or.inl ⟨rfl, _, _, rfl, rfl, hg⟩)
      · cases ha
    · cases ha
  | areturn =>
    simp only [mm_act, mm_if] at ha
    split at ha
    · split at ha
      · rename_i hg
        cases ha
        exact Or.inr (Or.inr (Or.inl ⟨rfl, some _, _, rfl, rfl, hg⟩))
      · cases ha
    · split at ha
      · rename_i hg
        cases ha
        exact Or.inr (Or.inr (Or.inl ⟨rfl, none, _, rfl, rfl, hg⟩))
      · cases ha
    · cases ha
  | return_ =>
    simp only [mm_act, mm_if] at ha
    split at ha
    · rename_i hg
      cases ha
      exact Or.inr (Or.inr (Or.inr ⟨rfl, rfl, hg⟩))
    · cases ha
  | _ =>
    simp only [mm_act, mm_go, mm_if, mm_call, mm_callV, mm_callI] at ha
    repeat' (first | cases ha | (focus (simp [Option.bind_eq_some_iff] at ha; done)) | split at ha)
set_option maxHeartbeats 4000000 in
theorem act_thr {y pc a : Nat} {i : ClassFile.Instr} {ls st : List Value} {h : mm_H} (ha : mm_act y pc i ls st h = some (.inr (.inr (.inr a)))) : i = .athrow ∧ ∃ r, st = .ref a :: r := by
  cases i with
  | athrow =>
    simp only [mm_act, mm_if] at ha
    split at ha
    · split at ha
      · cases ha
        exact ⟨rfl, _, rfl⟩
      · cases ha
    · cases ha
  | _ =>
    simp only [mm_act, mm_go, mm_if, mm_call, mm_callV, mm_callI] at ha
    repeat' (first | cases ha | (focus (simp [Option.bind_eq_some_iff] at ha; done)) | split at ha)
theorem mm_len1 {y pc len : Nat} {i : ClassFile.Instr} (hc : tb_cod y pc = some (i, len)) {k : Nat} (hk : mm_lk i = k) (h0 : k ≠ 0) : len = k := by
  rcases (mm_lkb hc).1 with q | q
  · exact q.symm.trans hk
  · exact absurd (hk.symm.trans q) h0
set_option maxHeartbeats 4000000 in
theorem mm_sound {P : mm_P} (ox : mm_OX P) (om : mm_OM P) (oc : mm_OC P) : ∀ (n d y pc : Nat) (ls st : List Value) (h : mm_H) (res : Option Value ⊕ Nat) (h' : mm_H), mm_run n d y pc ls st h = some (res, h') →
    (mm_n h ≤ mm_n h' ∧ mm_z h ≤ mm_z h') ∧ ∀ (n0 z0 : Nat) (p : Program) (l : Launch) (e : Env) (R : Room) (s : State) (m : MethodId) (args : Array Value) (below : List Frame) (meth : Method) (c : Code), mm_Cx P y d p R s m meth c → mm_n h' ≤ n0 + R.cells → mm_z h' ≤ z0 + R.slots → mm_G P y n0 z0 p l e R s m args below meth c (mm_fin P s below n0 z0 res h') pc ls st h := by
  intro n
  induction n with
  | zero => intro d y pc ls st h res h' hr; simp [mm_run] at hr
  | succ n ih =>
    intro d y pc ls st h res h' hr
    rw [mm_run] at hr
    cases hc : tb_cod y pc with
    | none => simp [hc] at hr
    | some q =>
      obtain ⟨i, len⟩ := q
      simp only [hc] at hr
      cases ha : mm_act y pc i ls st h with
      | none => simp [ha] at hr
      | some A =>
        simp only [ha] at hr
        rcases A with g | cc | v | a
        · obtain ⟨pc', ls', st', h2⟩ := g
          obtain ⟨⟨m1, m2⟩, G1⟩ := ih _ _ _ _ _ _ _ _ hr
          obtain ⟨⟨m3, m4⟩, G2⟩ := sim_go hc ha
          refine ⟨⟨Nat.le_trans m3 m1, Nat.le_trans m4 m2⟩, fun n0 z0 p l e R s m args below meth c C r1 r2 => ?_⟩
          exact G2 P d n0 z0 p l e R s m args below meth c _ ox om C (Nat.le_trans m1 r1) (Nat.le_trans m2 r2) (G1 n0 z0 p l e R s m args below meth c C r1 r2)
        · obtain ⟨z, as, rest⟩ := cc
          cases d with
          | zero => simp at hr
          | succ d' =>
            simp only at hr
            obtain ⟨k, hk, hz, hlen, hok, rfl, rfl, hi⟩ := act_call ha
            cases h1 : mm_run n d' z 0 (mm_ent z (st.take (tb_na z)).reverse) [] h with
            | none => simp [h1] at hr
            | some x =>
              obtain ⟨res1, h2⟩ := x
              obtain ⟨⟨m1, m2⟩, G1⟩ := ih _ _ _ _ _ _ _ _ h1
              have main : ((mm_n h2 ≤ mm_n h' ∧ mm_z h2 ≤ mm_z h') ∧ ∀ (n0 z0 : Nat) (p : Program) (l : Launch) (e : Env) (R : Room) (s : State) (m : MethodId) (args : Array Value) (below : List Frame) (meth : Method) (c : Code), mm_Cx P y (d' + 1) p R s m meth c → mm_n h' ≤ n0 + R.cells → mm_z h' ≤ z0 + R.slots → mm_K P y n0 z0 p l e R s m args below meth c (mm_fin P s below n0 z0 res h') pc ls (st.drop (tb_na z)) res1 h2) := by
                simp only [h1] at hr
                rcases res1 with v | a
                · obtain ⟨⟨m3, m4⟩, G2⟩ := ih _ _ _ _ _ _ _ _ hr
                  exact ⟨⟨m3, m4⟩, fun n0 z0 p l e R s m args below meth c C r1 r2 => mm_K.ret (G2 n0 z0 p l e R s m args below meth c C r1 r2)⟩
                · simp only at hr
                  cases hh : mm_hnd y pc (mm_s h2 a).1 with
                  | none =>
                    simp only [hh] at hr
                    split at hr
                    · rename_i hcv
                      cases hr
                      exact ⟨⟨Nat.le_refl _, Nat.le_refl _⟩, fun n0 z0 p l e R s m args below meth c C r1 r2 => mm_K.thr C hcv⟩
                    · cases hr
                  | some pc' =>
                    simp only [hh] at hr
                    obtain ⟨⟨m3, m4⟩, G2⟩ := ih _ _ _ _ _ _ _ _ hr
                    exact ⟨⟨m3, m4⟩, fun n0 z0 p l e R s m args below meth c C r1 r2 => oc _ _ _ _ _ _ _ _ _ _ _ _ _ _ _ _ _ _ _ _ _ C hh (G2 n0 z0 p l e R s m args below meth c C r1 r2)⟩
              obtain ⟨⟨m3, m4⟩, KK⟩ := main
              refine ⟨⟨Nat.le_trans m1 m3, Nat.le_trans m2 m4⟩, fun n0 z0 p l e R s m args below meth c C r1 r2 => ?_⟩
              have IH := fun (R' : Room) (s' : State) (m' : MethodId) (args' : Array Value) (below' : List Frame) (meth' : Method) (c' : Code) C' q1 q2 => G1 (mm_n h) (mm_z h) p l e R' s' m' args' below' meth' c' C' q1 q2
              have K := KK n0 z0 p l e R s m args below meth c C r1 r2
              have hib := (mm_lkb hc).2
              rcases hi with ⟨rfl, hst⟩ | ⟨rfl, hst, a, hv, hka⟩ | ⟨rfl, hst, a, hv⟩
              · obtain rfl := mm_len1 hc (k := 3) rfl (by decide)
                exact sg_static C hc hk hz hst hlen.1 hlen.2 hok (Nat.le_trans m3 r1) (Nat.le_trans m4 r2) m1 m2 IH K
              · obtain rfl := mm_len1 hc (k := 3) rfl (by decide)
                simp only [mm_ib, hk, decide_eq_true_eq] at hib
                exact sg_virtual C hc hk hz hst hib.1 hib.2 hlen.1 hlen.2 hv hka hok (Nat.le_trans m3 r1) (Nat.le_trans m4 r2) m1 m2 IH K
              · obtain rfl := mm_len1 hc (k := 3) rfl (by decide)
                simp only [mm_ib, hk, Bool.or_eq_true, beq_iff_eq, decide_eq_false_iff_not, decide_eq_true_eq] at hib
                have hib2 := hib.resolve_left (fun q => q hz)
                exact sg_special C hc hk hz hst hib2.1 hib2.2.1 hib2.2.2 hlen.1 hlen.2 hv hok (Nat.le_trans m3 r1) (Nat.le_trans m4 r2) m1 m2 IH K
        · cases hr
          refine ⟨⟨Nat.le_refl _, Nat.le_refl _⟩, fun n0 z0 p l e R s m args below meth c C r1 r2 => ?_⟩
          rcases act_ret ha with ⟨rfl, x, r, rfl, rfl, ht⟩ | ⟨rfl, x, r, rfl, rfl, ht⟩ | ⟨rfl, o, r, rfl, rfl, ht⟩ | ⟨rfl, rfl, ht⟩
          · obtain rfl := mm_len1 hc (k := 1) rfl (by decide)
            exact sg_iret C hc ht
          · obtain rfl := mm_len1 hc (k := 1) rfl (by decide)
            exact sg_lret C hc ht
          · obtain rfl := mm_len1 hc (k := 1) rfl (by decide)
            exact sg_aret C hc ht
          · obtain rfl := mm_len1 hc (k := 1) rfl (by decide)
            exact sg_vret C hc ht
        · obtain ⟨rfl, r, rfl⟩ := act_thr ha
          obtain rfl := mm_len1 hc (k := 1) rfl (by decide)
          simp only at hr
          cases hh : mm_hnd y pc (mm_s h a).1 with
          | none =>
            simp only [hh] at hr
            split at hr
            · rename_i hcv
              cases hr
              exact ⟨⟨Nat.le_refl _, Nat.le_refl _⟩, fun n0 z0 p l e R s m args below meth c C r1 r2 => sg_athrow C hc (mm_K.thr C hcv)⟩
            · cases hr
          | some pc' =>
            simp only [hh] at hr
            obtain ⟨⟨m3, m4⟩, G2⟩ := ih _ _ _ _ _ _ _ _ hr
            exact ⟨⟨m3, m4⟩, fun n0 z0 p l e R s m args below meth c C r1 r2 => sg_athrow C hc (oc _ _ _ _ _ _ _ _ _ _ _ _ _ _ _ _ _ _ _ _ _ C hh (G2 n0 z0 p l e R s m args below meth c C r1 r2))⟩
end
section
/-! A CATCH, THE CATCH'S CLASS COLD OR WARM -/
section
variable {E : CtlPost} {e : Env} {d : Bool} {acts : List Action} {s : State} {f : JFrame} {a : Addr} {Q : Handler → Pre}
theorem mm_goCold {x : ExceptionTableEntry} {t : List ExceptionTableEntry} {c : ClassId} {cell : Cell} {vm' : Vm} (hx : covers x f.pc = true) (h0 : x.catchType ≠ 0)
    (hg : (Jvm.resolveClass f.method.cls x.catchType).Gives e.toSetting s.vm (.ok c) vm') (hsz : vm'.classes.size ≤ s.vm.classes.size) (hcell : s.heap[a]? = some cell) (hobj : ∀ k, cell.vm ≠ .statics k)
    (hk : ∃ k, vm'.classes[cell.cls]? = some k) (hc : ∃ k, vm'.classes[c]? = some k) :
    wp (findHandler.go f a (x :: t)) Q E e d acts s ↔ if vm'.assignable cell.cls c = true then Q (.found x.handlerPc) d acts (s.setVm vm') else wp (findHandler.go f a t) Q E e d acts (s.setVm vm') := by
  simp only [covers] at hx
  obtain ⟨ha, ht⟩ := hg.op (op := VmOp.resolveClass f.method.cls x.catchType) rfl
  cases hfit : vm'.assignable cell.cls c <;> simp [findHandler.go, hx, h0, ha, ht, hsz, hcell, hobj, hk, hc, hfit, VmOp.dirties, VmOp.acts]
end
/-- the search ends there, at warmer tables -/
def mm_Fi (e : Env) (U : State) (f : JFrame) (a : Addr) (L : List ExceptionTableEntry) (pc : Nat) (vm' : Vm) : Prop := ∀ (Q : Handler → Pre) (E : CtlPost) (d : Bool) (acts : List Action), wp (findHandler.go f a L) Q E e d acts U ↔ Q (.found pc) d acts (U.setVm vm')
theorem mm_caught {tb : Tables} [Ours tb] {e : Env} {s target : State} {g : JFrame} {c : Code} {below : List Frame} {a : Addr} (h : At s g.method c below) {meth : Method} (hm : s.vm.method? g.method = some meth) (hcd : meth.code = some c) {pc : Nat} {vm' : Vm} (hfind : mm_Fi e ((s.setTop g).pushFrame (.throwing a)) g a c.exceptionTable.toList pc vm')
    (hrest : Steps tb e below ((s.setVm vm').setTop { g with pc := pc, stack := [.ref a] }) target) : Steps tb e below ((s.setTop g).pushFrame (.throwing a)) target := by
  obtain ⟨hgo, hw⟩ := h.throwing a
  refine Steps.head hgo hw ?_
  have hm2 : ((s.setTop g).pushFrame (.throwing a)).vm.method? g.method = some meth := by rw [Stand.throwing_vm]; exact hm
  have hstep : (stepThrowing e ((s.setTop g).pushFrame (.throwing a)) a (.java g :: s.frames.tail)).1 = (((s.setTop g).pushFrame (.throwing a)).setVm vm').setFrames (.java { g with pc := pc, stack := [.ref a] } :: s.frames.tail) := by
    simp only [stepThrowing, searchFrame, vmDo]
    generalize hr : Sem.go _ e false [] ((s.setTop g).pushFrame (.throwing a)) = res
    obtain ⟨as, rfl, ha⟩ := Sem.eq_ok_of hr (a := Handler.found pc) (s' := ((s.setTop g).pushFrame (.throwing a)).setVm vm') (acts' := []) (by simp [W.findHandler_eq hm2 hcd, hfind _ _ _ _])
    rfl
  rw [stepThread_throwing (frames_entered h.top _), hstep]
  obtain ⟨g₀, hg⟩ := Option.isSome_iff_exists.mp h.top
  obtain ⟨r, hr⟩ := State.topJava?_eq_some.mp hg
  have hr' : (s.setVm vm').frames = .java g₀ :: r := hr
  rw [State.setTop_of_frames _ hr'] at hrest
  have hs : ∀ (A B D : List Frame), ((((s.setFrames A).setFrames B).setVm vm').setFrames D) = (s.setVm vm').setFrames D := by
    intro A B D
    show ((((s.setVm vm').setFrames A).setFrames B).setFrames D) = _
    rw [State.setFrames_setFrames, State.setFrames_setFrames]
  rw [State.pushFrame, State.setTop_of_frames _ hr, hr, hs]
  exact hrest
def tb_okH (y : Nat) : Bool := (tb_han.getD y []).all fun q => decide (q.2.2.2.2 ≠ 0 ∧ 30 ≤ q.2.2.2.1 ∧ q.2.2.2.1 ≤ 33) && decide (tb_ck y q.2.2.2.2 = some q.2.2.2.1)
theorem tb_okH_all : (List.range 149).all tb_okH = true := by decide +kernel
section
variable {P : mm_P} {y d n0 z0 : Nat} {p : Program} {l : Launch} {e : Env} {R : Room} {s : State} {m : MethodId} {args : Array Value} {below : List Frame} {meth : Method} {c : Code} {Q : State → Prop} {pc k : Nat} {ls ls' st r : List Value} {h h1 : mm_H}
theorem mm_find (C : mm_Cx P y d p R s m meth c) (hpl : e.platform.magicAccessors = ({} : Platform).magicAccessors) {kd : Nat} {f : JFrame} {ad : Nat} {cell : Cell} (hf : f.method = m) (hpc : f.pc = pc) (h30 : 30 ≤ kd) (h33 : kd ≤ 33) (hcls : cell.cls = P.2.2.2 kd) (hvm : cell.vm = .none) :
    ∀ (L : List ExceptionTableEntry) (HL : List (Nat × Nat × Nat × Nat × Nat)), L.map (fun h => (h.startPc, h.endPc, h.handlerPc, h.catchType)) = HL.map (fun q => (q.1, q.2.1, q.2.2.1, q.2.2.2.2)) → (∀ q ∈ HL, (q.2.2.2.2 ≠ 0 ∧ 30 ≤ q.2.2.2.1 ∧ q.2.2.2.1 ≤ 33) ∧ tb_ck y q.2.2.2.2 = some q.2.2.2.1) →
      ∀ (U : State), s.WarmedH U.vm → U.heap[ad]? = some cell → ∀ pc', (HL.find? (fun q => decide (q.1 ≤ pc) && (decide (pc < q.2.1) && decide (q.2.2.2.1 = kd)))).map (·.2.2.1) = some pc' → ∃ vm', s.WarmedH vm' ∧ mm_Fi e U f ad L pc' vm' := by
  intro L
  induction L with
  | nil =>
    intro HL hmap _ U _ _ pc' hfd
    cases HL with
    | nil => simp at hfd
    | cons q t => simp at hmap
  | cons z t ih =>
    intro HL hmap hok U hW hcell pc' hfd
    cases HL with
    | nil => simp at hmap
    | cons q t' =>
      simp only [List.map_cons, List.cons.injEq, Prod.mk.injEq] at hmap
      obtain ⟨⟨e1, e2, e3, e4⟩, hmap'⟩ := hmap
      obtain ⟨⟨k0, k1, k2⟩, hck⟩ := hok q List.mem_cons_self
      have hok' : ∀ q ∈ t', (q.2.2.2.2 ≠ 0 ∧ 30 ≤ q.2.2.2.1 ∧ q.2.2.2.1 ≤ 33) ∧ tb_ck y q.2.2.2.2 = some q.2.2.2.1 := fun q hq => hok q (List.mem_cons_of_mem _ hq)
      by_cases hcov : covers z f.pc = true
      · have E := C.2.1.2.2.2
        have hks : q.2.2.2.1 ∈ tb_ks := (mm_ck_ks hck).resolve_right (by omega)
        obtain ⟨i, hi⟩ := Nat.exists_eq_add_of_le k1
        obtain ⟨j, hj⟩ := Nat.exists_eq_add_of_le h30
        have hcl : Cond.classLink (tb_nm (tb_cls y)) q.2.2.2.2 (mm_xn i) ∈ lw_tbl := by
          rcases mm_ck_spec hck with w | w
          · have w2 := w.2
            rw [hi] at w2
            exact w2
          · omega
        obtain ⟨cc, hfcc, hcl2⟩ := Cond.classLink_spec C.2.1.1 (E.1 _ hcl rfl #[]) e.platform hpl
        obtain ⟨hfi, kI, hkI, hkindI⟩ := E.2.2.2.2.1 i (by omega)
        obtain ⟨hfj, kJ, hkJ, hkindJ⟩ := E.2.2.2.2.1 j (by omega)
        have hcc : cc = P.2.2.2 (30 + i) := Option.some.inj (hfcc.symm.trans hfi)
        subst hcc
        obtain ⟨hg, hW', -⟩ := State.classEntry (e := e) hW hcl2
        have hsz : (U.vm.noted m.cls q.2.2.2.2 (.cls (P.2.2.2 (30 + i)))).classes.size ≤ U.vm.classes.size := by simp [Vm.noted]
        generalize U.vm.noted m.cls q.2.2.2.2 (.cls (P.2.2.2 (30 + i))) = vm1 at hg hW' hsz
        have hobj : ∀ k, cell.vm ≠ .statics k := fun k q => by rw [hvm] at q; cases q
        have hkc : ∃ k, vm1.classes[cell.cls]? = some k := by
          obtain ⟨k', hk', -⟩ := hW'.alike.2.2 _ _ hkJ
          rw [hcls, hj]; exact ⟨k', hk'⟩
        have hkt : ∃ k, vm1.classes[P.2.2.2 (30 + i)]? = some k := by
          obtain ⟨k', hk', -⟩ := hW'.alike.2.2 _ _ hkI
          exact ⟨k', hk'⟩
        have hgo : ∀ (Q : Handler → Pre) (E : CtlPost) (d : Bool) (acts : List Action), wp (findHandler.go f ad (z :: t)) Q E e d acts U ↔ if vm1.assignable cell.cls (P.2.2.2 (30 + i)) = true then Q (.found z.handlerPc) d acts (U.setVm vm1) else wp (findHandler.go f ad t) Q E e d acts (U.setVm vm1) := fun Q E d acts => mm_goCold hcov (by rw [e4]; exact k0) (by rw [hf, e4]; exact hg) hsz hcell hobj hkc hkt
        by_cases hkd : q.2.2.2.1 = kd
        · have hij : i = j := by omega
          subst hij
          have hasg : vm1.assignable cell.cls (P.2.2.2 (30 + i)) = true := by
            rw [hW'.alike.assignable, hcls, hj]
            exact va_assign ⟨hfi, kI, hkI, hkindI⟩
          have hpc' : pc' = z.handlerPc := by
            rw [List.find?_cons_of_pos (by
              simp only [covers, Bool.and_eq_true, decide_eq_true_eq] at hcov ⊢
              rw [← hpc, ← e1, ← e2]
              exact ⟨hcov.1, hcov.2, hkd⟩)] at hfd
            simp only [Option.map_some, Option.some.injEq] at hfd
            rw [← hfd, e3]
          subst hpc'
          refine ⟨vm1, hW', fun Q E d acts => ?_⟩
          rw [hgo, if_pos hasg]
        · have hne : j ≠ i := by omega
          have hasg : vm1.assignable cell.cls (P.2.2.2 (30 + i)) = false := by
            obtain ⟨c1, c2, n1, n2, n3⟩ := E.2.2.2.2.2 j i (by omega) (by omega) hne
            cases hfj.symm.trans n1
            cases hfi.symm.trans n2
            rw [hW'.alike.assignable, hcls, hj]
            exact n3
          rw [List.find?_cons_of_neg (by
            simp only [Bool.and_eq_true, decide_eq_true_eq]
            exact fun w => hkd w.2.2)] at hfd
          obtain ⟨vm2, hW2, hF⟩ := ih t' hmap' hok' (U.setVm vm1) hW' hcell pc' hfd
          refine ⟨vm2, hW2, fun Q E d acts => ?_⟩
          rw [hgo, if_neg (by rw [hasg]; decide), hF Q E d acts]
          rfl
      · have hcov' : covers z f.pc = false := by simpa using hcov
        rw [List.find?_cons_of_neg (by
          simp only [Bool.and_eq_true, decide_eq_true_eq]
          intro w
          apply hcov
          simp only [covers, Bool.and_eq_true, decide_eq_true_eq]
          rw [hpc, e1, e2]
          exact ⟨w.1, w.2.1⟩)] at hfd
        obtain ⟨vm2, hW2, hF⟩ := ih t' hmap' hok' U hW hcell pc' hfd
        refine ⟨vm2, hW2, fun Q E d acts => ?_⟩
        rw [W.findHandler_go_skip hcov', hF Q E d acts]
end
theorem mm_oc (P : mm_P) : mm_OC P := by
  intro y d n0 z0 p l e R s m args below meth c Q pc pc' a ls rest h1 C hh G T' locs cells slots lsR X hr hlv hl hn hz
  have hy := C.2.2.1.1
  have hok := List.all_eq_true.mp tb_okH_all y (List.mem_range.mpr hy)
  unfold tb_okH at hok
  have hok2 : ∀ q ∈ tb_han.getD y [], (q.2.2.2.2 ≠ 0 ∧ 30 ≤ q.2.2.2.1 ∧ q.2.2.2.1 ≤ 33) ∧ tb_ck y q.2.2.2.2 = some q.2.2.2.1 := by
    intro q hq
    have := List.all_eq_true.mp hok q hq
    simpa using this
  have h30 : 30 ≤ (mm_s h1 a).1 := by
    unfold mm_hnd at hh
    cases hfd : (tb_han.getD y []).find? (fun q => decide (q.1 ≤ pc) && (decide (pc < q.2.1) && decide (q.2.2.2.1 = (mm_s h1 a).1))) with
    | none => rw [hfd] at hh; cases hh
    | some q =>
      have hm := List.mem_of_find?_eq_some hfd
      have hp := List.find?_some hfd
      simp only [Bool.and_eq_true, decide_eq_true_eq] at hp
      have := (hok2 q hm).1.2.1
      omega
  obtain ⟨ha, ha0, h33, cell, e1, e2, e3, e4⟩ := hr.exc rfl h30
  have hpl : e.platform.magicAccessors = ({} : Platform).magicAccessors := by rw [X.admits.platform]
  obtain ⟨vm', hW', hF⟩ := mm_find C hpl (f := F0 m pc lsR (rest.map (mm_rv P))) (ad := mm_ad P a) rfl rfl h30 h33 e2 e3 c.exceptionTable.toList (tb_han.getD y []) C.2.2.1.2 hok2 ((T'.setTop (F0 m pc lsR (rest.map (mm_rv P)))).pushFrame (.throwing (mm_ad P a))) (by rw [Stand.throwing_vm]; exact X.warmed) (by rw [Stand.throwing_heap]; exact e1) pc' hh
  obtain ⟨t, ht, hQ⟩ := G T'.heap locs cells slots lsR hr hlv hl hn hz (T'.setVm vm') rfl (X.noted hW')
  refine ⟨t, ?_, hQ⟩
  show Steps p.tables e below ((T'.setTop (F0 m pc lsR (rest.map (mm_rv P)))).pushFrame (.throwing (mm_ad P a))) t
  exact mm_caught (g := F0 m pc lsR (rest.map (mm_rv P))) X.here X.method' X.code hF ht
end
