-- ===== PART A: goes FIRST, ahead of the names: the tables' words, and 'selects' of the private methods out of them =====
/-- a private method of a class that the tables say can be made, by its rows of tables_1 -/
def lw_okq (q : MethodName × Nat) : Prop := (q.1.cls ≠ "java/lang/invoke/MethodHandle" ∧ q.1.cls ≠ "java/lang/invoke/VarHandle") ∧ Cond.instantiable q.1.cls q.2 ∈ tables_1 ∧ Cond.privateMethod q.1 ∈ tables_1 ∧ Cond.instanceMethod q.1 ∈ tables_1
theorem lw_p0 : lw_okq (⟨"WordMint$Parser", "forget", "()V"⟩, 12) := ⟨⟨by decide +kernel, by decide +kernel⟩, List.mem_of_getElem? (i := 44) (by decide +kernel), List.mem_of_getElem? (i := 463) (by decide +kernel), List.mem_of_getElem? (i := 464) (by decide +kernel)⟩
theorem lw_p1 : lw_okq (⟨"WordMint$Scanner", "scanWord", "(LWordMint$Tape;)V"⟩, 4) := ⟨⟨by decide +kernel, by decide +kernel⟩, List.mem_of_getElem? (i := 50) (by decide +kernel), List.mem_of_getElem? (i := 484) (by decide +kernel), List.mem_of_getElem? (i := 485) (by decide +kernel)⟩
theorem lw_p2 : lw_okq (⟨"WordMint$Scanner", "scanNumber", "(LWordMint$Tape;)V"⟩, 4) := ⟨⟨by decide +kernel, by decide +kernel⟩, List.mem_of_getElem? (i := 50) (by decide +kernel), List.mem_of_getElem? (i := 558) (by decide +kernel), List.mem_of_getElem? (i := 559) (by decide +kernel)⟩
theorem lw_p3 : lw_okq (⟨"WordMint$Parser", "goesOn", "(I)Z"⟩, 12) := ⟨⟨by decide +kernel, by decide +kernel⟩, List.mem_of_getElem? (i := 44) (by decide +kernel), List.mem_of_getElem? (i := 567) (by decide +kernel), List.mem_of_getElem? (i := 568) (by decide +kernel)⟩
theorem lw_p4 : lw_okq (⟨"WordMint$Parser", "stateBehind", "(I)I"⟩, 12) := ⟨⟨by decide +kernel, by decide +kernel⟩, List.mem_of_getElem? (i := 44) (by decide +kernel), List.mem_of_getElem? (i := 571) (by decide +kernel), List.mem_of_getElem? (i := 572) (by decide +kernel)⟩
theorem lw_p5 : lw_okq (⟨"WordMint$Parser", "hasRoom", "(I)Z"⟩, 12) := ⟨⟨by decide +kernel, by decide +kernel⟩, List.mem_of_getElem? (i := 44) (by decide +kernel), List.mem_of_getElem? (i := 581) (by decide +kernel), List.mem_of_getElem? (i := 582) (by decide +kernel)⟩
theorem lw_p6 : lw_okq (⟨"WordMint$Parser", "hasRoomForTell", "()Z"⟩, 12) := ⟨⟨by decide +kernel, by decide +kernel⟩, List.mem_of_getElem? (i := 44) (by decide +kernel), List.mem_of_getElem? (i := 585) (by decide +kernel), List.mem_of_getElem? (i := 586) (by decide +kernel)⟩
theorem lw_p7 : lw_okq (⟨"WordMint$Parser", "keepToken", "()V"⟩, 12) := ⟨⟨by decide +kernel, by decide +kernel⟩, List.mem_of_getElem? (i := 44) (by decide +kernel), List.mem_of_getElem? (i := 589) (by decide +kernel), List.mem_of_getElem? (i := 590) (by decide +kernel)⟩
theorem lw_p8 : lw_okq (⟨"WordMint$Teller", "tellNext", "(LWordMint$Told;I)I"⟩, 2) := ⟨⟨by decide +kernel, by decide +kernel⟩, List.mem_of_getElem? (i := 114) (by decide +kernel), List.mem_of_getElem? (i := 597) (by decide +kernel), List.mem_of_getElem? (i := 598) (by decide +kernel)⟩
theorem lw_p9 : lw_okq (⟨"WordMint$Teller", "tellField", "(LWordMint$Told;I)I"⟩, 2) := ⟨⟨by decide +kernel, by decide +kernel⟩, List.mem_of_getElem? (i := 114) (by decide +kernel), List.mem_of_getElem? (i := 605) (by decide +kernel), List.mem_of_getElem? (i := 606) (by decide +kernel)⟩
theorem lw_p10 : lw_okq (⟨"WordMint$Teller", "tellOrder", "(LWordMint$Told;I)I"⟩, 2) := ⟨⟨by decide +kernel, by decide +kernel⟩, List.mem_of_getElem? (i := 114) (by decide +kernel), List.mem_of_getElem? (i := 624) (by decide +kernel), List.mem_of_getElem? (i := 625) (by decide +kernel)⟩
theorem lw_p11 : lw_okq (⟨"WordMint$Teller", "bitsOfKnownFields", "(LWordMint$Told;I)I"⟩, 2) := ⟨⟨by decide +kernel, by decide +kernel⟩, List.mem_of_getElem? (i := 114) (by decide +kernel), List.mem_of_getElem? (i := 628) (by decide +kernel), List.mem_of_getElem? (i := 629) (by decide +kernel)⟩
theorem lw_p12 : lw_okq (⟨"WordMint$Teller", "tellMembers", "(LWordMint$Told;II)I"⟩, 2) := ⟨⟨by decide +kernel, by decide +kernel⟩, List.mem_of_getElem? (i := 114) (by decide +kernel), List.mem_of_getElem? (i := 640) (by decide +kernel), List.mem_of_getElem? (i := 641) (by decide +kernel)⟩
theorem lw_p13 : lw_okq (⟨"WordMint$Teller", "tellAlias", "(LWordMint$Told;I)I"⟩, 2) := ⟨⟨by decide +kernel, by decide +kernel⟩, List.mem_of_getElem? (i := 114) (by decide +kernel), List.mem_of_getElem? (i := 648) (by decide +kernel), List.mem_of_getElem? (i := 649) (by decide +kernel)⟩
theorem lw_p14 : lw_okq (⟨"WordMint$Teller", "tellHeld", "(LWordMint$Told;II)I"⟩, 2) := ⟨⟨by decide +kernel, by decide +kernel⟩, List.mem_of_getElem? (i := 114) (by decide +kernel), List.mem_of_getElem? (i := 653) (by decide +kernel), List.mem_of_getElem? (i := 654) (by decide +kernel)⟩
theorem lw_p15 : lw_okq (⟨"WordMint$Teller", "tellRoom", "(LWordMint$Told;I)I"⟩, 2) := ⟨⟨by decide +kernel, by decide +kernel⟩, List.mem_of_getElem? (i := 114) (by decide +kernel), List.mem_of_getElem? (i := 664) (by decide +kernel), List.mem_of_getElem? (i := 665) (by decide +kernel)⟩
def lw_privs_1 : List (MethodName × Nat) := [(⟨"WordMint$Parser", "forget", "()V"⟩, 12), (⟨"WordMint$Scanner", "scanWord", "(LWordMint$Tape;)V"⟩, 4), (⟨"WordMint$Scanner", "scanNumber", "(LWordMint$Tape;)V"⟩, 4), (⟨"WordMint$Parser", "goesOn", "(I)Z"⟩, 12), (⟨"WordMint$Parser", "stateBehind", "(I)I"⟩, 12), (⟨"WordMint$Parser", "hasRoom", "(I)Z"⟩, 12), (⟨"WordMint$Parser", "hasRoomForTell", "()Z"⟩, 12), (⟨"WordMint$Parser", "keepToken", "()V"⟩, 12), (⟨"WordMint$Teller", "tellNext", "(LWordMint$Told;I)I"⟩, 2), (⟨"WordMint$Teller", "tellField", "(LWordMint$Told;I)I"⟩, 2), (⟨"WordMint$Teller", "tellOrder", "(LWordMint$Told;I)I"⟩, 2), (⟨"WordMint$Teller", "bitsOfKnownFields", "(LWordMint$Told;I)I"⟩, 2), (⟨"WordMint$Teller", "tellMembers", "(LWordMint$Told;II)I"⟩, 2), (⟨"WordMint$Teller", "tellAlias", "(LWordMint$Told;I)I"⟩, 2), (⟨"WordMint$Teller", "tellHeld", "(LWordMint$Told;II)I"⟩, 2), (⟨"WordMint$Teller", "tellRoom", "(LWordMint$Told;I)I"⟩, 2)]
theorem lw_r1 : ∀ q ∈ lw_privs_1, lw_okq q := List.forall_mem_cons.mpr ⟨lw_p0, List.forall_mem_cons.mpr ⟨lw_p1, List.forall_mem_cons.mpr ⟨lw_p2, List.forall_mem_cons.mpr ⟨lw_p3, List.forall_mem_cons.mpr ⟨lw_p4, List.forall_mem_cons.mpr ⟨lw_p5, List.forall_mem_cons.mpr ⟨lw_p6, List.forall_mem_cons.mpr ⟨lw_p7, List.forall_mem_cons.mpr ⟨lw_p8, List.forall_mem_cons.mpr ⟨lw_p9, List.forall_mem_cons.mpr ⟨lw_p10, List.forall_mem_cons.mpr ⟨lw_p11, List.forall_mem_cons.mpr ⟨lw_p12, List.forall_mem_cons.mpr ⟨lw_p13, List.forall_mem_cons.mpr ⟨lw_p14, List.forall_mem_cons.mpr ⟨lw_p15, fun _ h => absurd h List.not_mem_nil⟩⟩⟩⟩⟩⟩⟩⟩⟩⟩⟩⟩⟩⟩⟩⟩
theorem lw_p16 : lw_okq (⟨"WordMint$Chooser", "pileOrders", "(LWordMint$Told;II)V"⟩, 2) := ⟨⟨by decide +kernel, by decide +kernel⟩, List.mem_of_getElem? (i := 249) (by decide +kernel), List.mem_of_getElem? (i := 684) (by decide +kernel), List.mem_of_getElem? (i := 685) (by decide +kernel)⟩
theorem lw_p17 : lw_okq (⟨"WordMint$Chooser", "pileOne", "(J)V"⟩, 2) := ⟨⟨by decide +kernel, by decide +kernel⟩, List.mem_of_getElem? (i := 249) (by decide +kernel), List.mem_of_getElem? (i := 694) (by decide +kernel), List.mem_of_getElem? (i := 695) (by decide +kernel)⟩
theorem lw_p18 : lw_okq (⟨"WordMint$Chooser", "pairUp", "(I)V"⟩, 2) := ⟨⟨by decide +kernel, by decide +kernel⟩, List.mem_of_getElem? (i := 249) (by decide +kernel), List.mem_of_getElem? (i := 698) (by decide +kernel), List.mem_of_getElem? (i := 699) (by decide +kernel)⟩
theorem lw_p19 : lw_okq (⟨"WordMint$Layout", "setUnits", "(LWordMint$Told;II)V"⟩, 12) := ⟨⟨by decide +kernel, by decide +kernel⟩, List.mem_of_getElem? (i := 262) (by decide +kernel), List.mem_of_getElem? (i := 708) (by decide +kernel), List.mem_of_getElem? (i := 709) (by decide +kernel)⟩
theorem lw_p20 : lw_okq (⟨"WordMint$Layout", "setMarks", "(LWordMint$Told;)V"⟩, 12) := ⟨⟨by decide +kernel, by decide +kernel⟩, List.mem_of_getElem? (i := 262) (by decide +kernel), List.mem_of_getElem? (i := 712) (by decide +kernel), List.mem_of_getElem? (i := 713) (by decide +kernel)⟩
theorem lw_p21 : lw_okq (⟨"WordMint$RowChooser", "weigh", "(LWordMint$Told;IILWordMint$Layout;)V"⟩, 2) := ⟨⟨by decide +kernel, by decide +kernel⟩, List.mem_of_getElem? (i := 268) (by decide +kernel), List.mem_of_getElem? (i := 723) (by decide +kernel), List.mem_of_getElem? (i := 724) (by decide +kernel)⟩
theorem lw_p22 : lw_okq (⟨"WordMint$RowChooser", "newIfFirst", "(LWordMint$Told;IIILWordMint$Layout;)I"⟩, 2) := ⟨⟨by decide +kernel, by decide +kernel⟩, List.mem_of_getElem? (i := 268) (by decide +kernel), List.mem_of_getElem? (i := 727) (by decide +kernel), List.mem_of_getElem? (i := 728) (by decide +kernel)⟩
theorem lw_p23 : lw_okq (⟨"WordMint$RowChooser", "firstToStand", "(LWordMint$Told;IILWordMint$Layout;)I"⟩, 2) := ⟨⟨by decide +kernel, by decide +kernel⟩, List.mem_of_getElem? (i := 268) (by decide +kernel), List.mem_of_getElem? (i := 731) (by decide +kernel), List.mem_of_getElem? (i := 732) (by decide +kernel)⟩
theorem lw_p24 : lw_okq (⟨"WordMint$Layout", "roomFor", "(LWordMint$Told;I)I"⟩, 12) := ⟨⟨by decide +kernel, by decide +kernel⟩, List.mem_of_getElem? (i := 262) (by decide +kernel), List.mem_of_getElem? (i := 751) (by decide +kernel), List.mem_of_getElem? (i := 752) (by decide +kernel)⟩
theorem lw_p25 : lw_okq (⟨"WordMint", "orderAsLaid", "(II)I"⟩, 11) := ⟨⟨by decide +kernel, by decide +kernel⟩, List.mem_of_getElem? (i := 20) (by decide +kernel), List.mem_of_getElem? (i := 759) (by decide +kernel), List.mem_of_getElem? (i := 760) (by decide +kernel)⟩
theorem lw_p26 : lw_okq (⟨"WordMint$Decoder", "gather", "(LWordMint$Told;LWordMint$Layout;)V"⟩, 11) := ⟨⟨by decide +kernel, by decide +kernel⟩, List.mem_of_getElem? (i := 337) (by decide +kernel), List.mem_of_getElem? (i := 767) (by decide +kernel), List.mem_of_getElem? (i := 768) (by decide +kernel)⟩
theorem lw_p27 : lw_okq (⟨"WordMint$Decoder", "keepMark", "(JII)V"⟩, 11) := ⟨⟨by decide +kernel, by decide +kernel⟩, List.mem_of_getElem? (i := 337) (by decide +kernel), List.mem_of_getElem? (i := 771) (by decide +kernel), List.mem_of_getElem? (i := 772) (by decide +kernel)⟩
theorem lw_p28 : lw_okq (⟨"WordMint$Decoder", "grow", "()V"⟩, 11) := ⟨⟨by decide +kernel, by decide +kernel⟩, List.mem_of_getElem? (i := 337) (by decide +kernel), List.mem_of_getElem? (i := 775) (by decide +kernel), List.mem_of_getElem? (i := 776) (by decide +kernel)⟩
theorem lw_p29 : lw_okq (⟨"WordMint$Decoder", "isEnd", "(II)Z"⟩, 11) := ⟨⟨by decide +kernel, by decide +kernel⟩, List.mem_of_getElem? (i := 337) (by decide +kernel), List.mem_of_getElem? (i := 779) (by decide +kernel), List.mem_of_getElem? (i := 780) (by decide +kernel)⟩
theorem lw_p30 : lw_okq (⟨"WordMint$Decoder", "bitToAsk", "(II)I"⟩, 11) := ⟨⟨by decide +kernel, by decide +kernel⟩, List.mem_of_getElem? (i := 337) (by decide +kernel), List.mem_of_getElem? (i := 783) (by decide +kernel), List.mem_of_getElem? (i := 784) (by decide +kernel)⟩
theorem lw_p31 : lw_okq (⟨"WordMint$Decoder", "differingBits", "(II)I"⟩, 11) := ⟨⟨by decide +kernel, by decide +kernel⟩, List.mem_of_getElem? (i := 337) (by decide +kernel), List.mem_of_getElem? (i := 787) (by decide +kernel), List.mem_of_getElem? (i := 788) (by decide +kernel)⟩
def lw_privs_2 : List (MethodName × Nat) := [(⟨"WordMint$Chooser", "pileOrders", "(LWordMint$Told;II)V"⟩, 2), (⟨"WordMint$Chooser", "pileOne", "(J)V"⟩, 2), (⟨"WordMint$Chooser", "pairUp", "(I)V"⟩, 2), (⟨"WordMint$Layout", "setUnits", "(LWordMint$Told;II)V"⟩, 12), (⟨"WordMint$Layout", "setMarks", "(LWordMint$Told;)V"⟩, 12), (⟨"WordMint$RowChooser", "weigh", "(LWordMint$Told;IILWordMint$Layout;)V"⟩, 2), (⟨"WordMint$RowChooser", "newIfFirst", "(LWordMint$Told;IIILWordMint$Layout;)I"⟩, 2), (⟨"WordMint$RowChooser", "firstToStand", "(LWordMint$Told;IILWordMint$Layout;)I"⟩, 2), (⟨"WordMint$Layout", "roomFor", "(LWordMint$Told;I)I"⟩, 12), (⟨"WordMint", "orderAsLaid", "(II)I"⟩, 11), (⟨"WordMint$Decoder", "gather", "(LWordMint$Told;LWordMint$Layout;)V"⟩, 11), (⟨"WordMint$Decoder", "keepMark", "(JII)V"⟩, 11), (⟨"WordMint$Decoder", "grow", "()V"⟩, 11), (⟨"WordMint$Decoder", "isEnd", "(II)Z"⟩, 11), (⟨"WordMint$Decoder", "bitToAsk", "(II)I"⟩, 11), (⟨"WordMint$Decoder", "differingBits", "(II)I"⟩, 11)]
theorem lw_r2 : ∀ q ∈ lw_privs_2, lw_okq q := List.forall_mem_cons.mpr ⟨lw_p16, List.forall_mem_cons.mpr ⟨lw_p17, List.forall_mem_cons.mpr ⟨lw_p18, List.forall_mem_cons.mpr ⟨lw_p19, List.forall_mem_cons.mpr ⟨lw_p20, List.forall_mem_cons.mpr ⟨lw_p21, List.forall_mem_cons.mpr ⟨lw_p22, List.forall_mem_cons.mpr ⟨lw_p23, List.forall_mem_cons.mpr ⟨lw_p24, List.forall_mem_cons.mpr ⟨lw_p25, List.forall_mem_cons.mpr ⟨lw_p26, List.forall_mem_cons.mpr ⟨lw_p27, List.forall_mem_cons.mpr ⟨lw_p28, List.forall_mem_cons.mpr ⟨lw_p29, List.forall_mem_cons.mpr ⟨lw_p30, List.forall_mem_cons.mpr ⟨lw_p31, fun _ h => absurd h List.not_mem_nil⟩⟩⟩⟩⟩⟩⟩⟩⟩⟩⟩⟩⟩⟩⟩⟩
theorem lw_p32 : lw_okq (⟨"WordMint$Decoder", "ones", "(III)I"⟩, 11) := ⟨⟨by decide +kernel, by decide +kernel⟩, List.mem_of_getElem? (i := 337) (by decide +kernel), List.mem_of_getElem? (i := 795) (by decide +kernel), List.mem_of_getElem? (i := 796) (by decide +kernel)⟩
theorem lw_p33 : lw_okq (⟨"WordMint$Decoder", "setEnd", "(II)V"⟩, 11) := ⟨⟨by decide +kernel, by decide +kernel⟩, List.mem_of_getElem? (i := 337) (by decide +kernel), List.mem_of_getElem? (i := 802) (by decide +kernel), List.mem_of_getElem? (i := 803) (by decide +kernel)⟩
theorem lw_p34 : lw_okq (⟨"WordMint$Decoder", "part", "(III)I"⟩, 11) := ⟨⟨by decide +kernel, by decide +kernel⟩, List.mem_of_getElem? (i := 337) (by decide +kernel), List.mem_of_getElem? (i := 806) (by decide +kernel), List.mem_of_getElem? (i := 807) (by decide +kernel)⟩
theorem lw_p35 : lw_okq (⟨"WordMint$Decoder", "swap", "(II)V"⟩, 11) := ⟨⟨by decide +kernel, by decide +kernel⟩, List.mem_of_getElem? (i := 337) (by decide +kernel), List.mem_of_getElem? (i := 810) (by decide +kernel), List.mem_of_getElem? (i := 811) (by decide +kernel)⟩
theorem lw_p36 : lw_okq (⟨"WordMint$Reading", "firstAlias", "(LWordMint$Told;)I"⟩, 4) := ⟨⟨by decide +kernel, by decide +kernel⟩, List.mem_of_getElem? (i := 382) (by decide +kernel), List.mem_of_getElem? (i := 861) (by decide +kernel), List.mem_of_getElem? (i := 862) (by decide +kernel)⟩
theorem lw_p37 : lw_okq (⟨"WordMint$Reading", "fits", "(LWordMint$Told;I)Z"⟩, 4) := ⟨⟨by decide +kernel, by decide +kernel⟩, List.mem_of_getElem? (i := 382) (by decide +kernel), List.mem_of_getElem? (i := 865) (by decide +kernel), List.mem_of_getElem? (i := 866) (by decide +kernel)⟩
theorem lw_p38 : lw_okq (⟨"WordMintModel", "byteRow", "(I)V"⟩, 57) := ⟨⟨by decide +kernel, by decide +kernel⟩, List.mem_of_getElem? (i := 890) (by decide +kernel), List.mem_of_getElem? (i := 1074) (by decide +kernel), List.mem_of_getElem? (i := 1075) (by decide +kernel)⟩
theorem lw_p39 : lw_okq (⟨"WordMintModel", "begins", "()V"⟩, 57) := ⟨⟨by decide +kernel, by decide +kernel⟩, List.mem_of_getElem? (i := 890) (by decide +kernel), List.mem_of_getElem? (i := 1086) (by decide +kernel), List.mem_of_getElem? (i := 1087) (by decide +kernel)⟩
theorem lw_p40 : lw_okq (⟨"WordMintModel", "token", "()V"⟩, 57) := ⟨⟨by decide +kernel, by decide +kernel⟩, List.mem_of_getElem? (i := 890) (by decide +kernel), List.mem_of_getElem? (i := 1090) (by decide +kernel), List.mem_of_getElem? (i := 1091) (by decide +kernel)⟩
theorem lw_p41 : lw_okq (⟨"WordMintModel", "seen", "(I)I"⟩, 57) := ⟨⟨by decide +kernel, by decide +kernel⟩, List.mem_of_getElem? (i := 890) (by decide +kernel), List.mem_of_getElem? (i := 1094) (by decide +kernel), List.mem_of_getElem? (i := 1095) (by decide +kernel)⟩
theorem lw_p42 : lw_okq (⟨"WordMintModel", "isLetter", "(I)Z"⟩, 57) := ⟨⟨by decide +kernel, by decide +kernel⟩, List.mem_of_getElem? (i := 890) (by decide +kernel), List.mem_of_getElem? (i := 1098) (by decide +kernel), List.mem_of_getElem? (i := 1099) (by decide +kernel)⟩
theorem lw_p43 : lw_okq (⟨"WordMintModel", "isDigit", "(I)Z"⟩, 57) := ⟨⟨by decide +kernel, by decide +kernel⟩, List.mem_of_getElem? (i := 890) (by decide +kernel), List.mem_of_getElem? (i := 1102) (by decide +kernel), List.mem_of_getElem? (i := 1103) (by decide +kernel)⟩
theorem lw_p44 : lw_okq (⟨"WordMintModel", "text", "()Z"⟩, 57) := ⟨⟨by decide +kernel, by decide +kernel⟩, List.mem_of_getElem? (i := 890) (by decide +kernel), List.mem_of_getElem? (i := 1113) (by decide +kernel), List.mem_of_getElem? (i := 1114) (by decide +kernel)⟩
theorem lw_p45 : lw_okq (⟨"WordMintModel", "stop", "(II)Z"⟩, 57) := ⟨⟨by decide +kernel, by decide +kernel⟩, List.mem_of_getElem? (i := 890) (by decide +kernel), List.mem_of_getElem? (i := 1117) (by decide +kernel), List.mem_of_getElem? (i := 1118) (by decide +kernel)⟩
theorem lw_p46 : lw_okq (⟨"WordMintModel", "fieldTold", "()Z"⟩, 57) := ⟨⟨by decide +kernel, by decide +kernel⟩, List.mem_of_getElem? (i := 890) (by decide +kernel), List.mem_of_getElem? (i := 1121) (by decide +kernel), List.mem_of_getElem? (i := 1122) (by decide +kernel)⟩
theorem lw_p47 : lw_okq (⟨"WordMintModel", "pass", "()Z"⟩, 57) := ⟨⟨by decide +kernel, by decide +kernel⟩, List.mem_of_getElem? (i := 890) (by decide +kernel), List.mem_of_getElem? (i := 1125) (by decide +kernel), List.mem_of_getElem? (i := 1126) (by decide +kernel)⟩
def lw_privs_3 : List (MethodName × Nat) := [(⟨"WordMint$Decoder", "ones", "(III)I"⟩, 11), (⟨"WordMint$Decoder", "setEnd", "(II)V"⟩, 11), (⟨"WordMint$Decoder", "part", "(III)I"⟩, 11), (⟨"WordMint$Decoder", "swap", "(II)V"⟩, 11), (⟨"WordMint$Reading", "firstAlias", "(LWordMint$Told;)I"⟩, 4), (⟨"WordMint$Reading", "fits", "(LWordMint$Told;I)Z"⟩, 4), (⟨"WordMintModel", "byteRow", "(I)V"⟩, 57), (⟨"WordMintModel", "begins", "()V"⟩, 57), (⟨"WordMintModel", "token", "()V"⟩, 57), (⟨"WordMintModel", "seen", "(I)I"⟩, 57), (⟨"WordMintModel", "isLetter", "(I)Z"⟩, 57), (⟨"WordMintModel", "isDigit", "(I)Z"⟩, 57), (⟨"WordMintModel", "text", "()Z"⟩, 57), (⟨"WordMintModel", "stop", "(II)Z"⟩, 57), (⟨"WordMintModel", "fieldTold", "()Z"⟩, 57), (⟨"WordMintModel", "pass", "()Z"⟩, 57)]
theorem lw_r3 : ∀ q ∈ lw_privs_3, lw_okq q := List.forall_mem_cons.mpr ⟨lw_p32, List.forall_mem_cons.mpr ⟨lw_p33, List.forall_mem_cons.mpr ⟨lw_p34, List.forall_mem_cons.mpr ⟨lw_p35, List.forall_mem_cons.mpr ⟨lw_p36, List.forall_mem_cons.mpr ⟨lw_p37, List.forall_mem_cons.mpr ⟨lw_p38, List.forall_mem_cons.mpr ⟨lw_p39, List.forall_mem_cons.mpr ⟨lw_p40, List.forall_mem_cons.mpr ⟨lw_p41, List.forall_mem_cons.mpr ⟨lw_p42, List.forall_mem_cons.mpr ⟨lw_p43, List.forall_mem_cons.mpr ⟨lw_p44, List.forall_mem_cons.mpr ⟨lw_p45, List.forall_mem_cons.mpr ⟨lw_p46, List.forall_mem_cons.mpr ⟨lw_p47, fun _ h => absurd h List.not_mem_nil⟩⟩⟩⟩⟩⟩⟩⟩⟩⟩⟩⟩⟩⟩⟩⟩
theorem lw_p48 : lw_okq (⟨"WordMintModel", "is", "(I)Z"⟩, 57) := ⟨⟨by decide +kernel, by decide +kernel⟩, List.mem_of_getElem? (i := 890) (by decide +kernel), List.mem_of_getElem? (i := 1129) (by decide +kernel), List.mem_of_getElem? (i := 1130) (by decide +kernel)⟩
theorem lw_p49 : lw_okq (⟨"WordMintModel", "fieldOf", "(J)I"⟩, 57) := ⟨⟨by decide +kernel, by decide +kernel⟩, List.mem_of_getElem? (i := 890) (by decide +kernel), List.mem_of_getElem? (i := 1133) (by decide +kernel), List.mem_of_getElem? (i := 1134) (by decide +kernel)⟩
theorem lw_p50 : lw_okq (⟨"WordMintModel", "fault", "(II)V"⟩, 57) := ⟨⟨by decide +kernel, by decide +kernel⟩, List.mem_of_getElem? (i := 890) (by decide +kernel), List.mem_of_getElem? (i := 1137) (by decide +kernel), List.mem_of_getElem? (i := 1138) (by decide +kernel)⟩
theorem lw_p51 : lw_okq (⟨"WordMintModel", "signs", "(I)Z"⟩, 57) := ⟨⟨by decide +kernel, by decide +kernel⟩, List.mem_of_getElem? (i := 890) (by decide +kernel), List.mem_of_getElem? (i := 1141) (by decide +kernel), List.mem_of_getElem? (i := 1142) (by decide +kernel)⟩
theorem lw_p52 : lw_okq (⟨"WordMintModel", "isSign", "(I)Z"⟩, 57) := ⟨⟨by decide +kernel, by decide +kernel⟩, List.mem_of_getElem? (i := 890) (by decide +kernel), List.mem_of_getElem? (i := 1145) (by decide +kernel), List.mem_of_getElem? (i := 1146) (by decide +kernel)⟩
theorem lw_p53 : lw_okq (⟨"WordMintModel", "orderTold", "(I)Z"⟩, 57) := ⟨⟨by decide +kernel, by decide +kernel⟩, List.mem_of_getElem? (i := 890) (by decide +kernel), List.mem_of_getElem? (i := 1149) (by decide +kernel), List.mem_of_getElem? (i := 1150) (by decide +kernel)⟩
theorem lw_p54 : lw_okq (⟨"WordMintModel", "orderOf", "(J)I"⟩, 57) := ⟨⟨by decide +kernel, by decide +kernel⟩, List.mem_of_getElem? (i := 890) (by decide +kernel), List.mem_of_getElem? (i := 1153) (by decide +kernel), List.mem_of_getElem? (i := 1154) (by decide +kernel)⟩
theorem lw_p55 : lw_okq (⟨"WordMintModel", "isAlias", "(J)Z"⟩, 57) := ⟨⟨by decide +kernel, by decide +kernel⟩, List.mem_of_getElem? (i := 890) (by decide +kernel), List.mem_of_getElem? (i := 1157) (by decide +kernel), List.mem_of_getElem? (i := 1158) (by decide +kernel)⟩
theorem lw_p56 : lw_okq (⟨"WordMintModel", "hasField", "(II)I"⟩, 57) := ⟨⟨by decide +kernel, by decide +kernel⟩, List.mem_of_getElem? (i := 890) (by decide +kernel), List.mem_of_getElem? (i := 1161) (by decide +kernel), List.mem_of_getElem? (i := 1162) (by decide +kernel)⟩
theorem lw_p57 : lw_okq (⟨"WordMintModel", "aliasTold", "()Z"⟩, 57) := ⟨⟨by decide +kernel, by decide +kernel⟩, List.mem_of_getElem? (i := 890) (by decide +kernel), List.mem_of_getElem? (i := 1165) (by decide +kernel), List.mem_of_getElem? (i := 1166) (by decide +kernel)⟩
theorem lw_p58 : lw_okq (⟨"WordMintModel", "aliasField", "(II)I"⟩, 57) := ⟨⟨by decide +kernel, by decide +kernel⟩, List.mem_of_getElem? (i := 890) (by decide +kernel), List.mem_of_getElem? (i := 1169) (by decide +kernel), List.mem_of_getElem? (i := 1170) (by decide +kernel)⟩
theorem lw_p59 : lw_okq (⟨"WordMintModel", "roomTold", "()Z"⟩, 57) := ⟨⟨by decide +kernel, by decide +kernel⟩, List.mem_of_getElem? (i := 890) (by decide +kernel), List.mem_of_getElem? (i := 1173) (by decide +kernel), List.mem_of_getElem? (i := 1174) (by decide +kernel)⟩
theorem lw_p60 : lw_okq (⟨"WordMintModel", "takeOver", "()V"⟩, 57) := ⟨⟨by decide +kernel, by decide +kernel⟩, List.mem_of_getElem? (i := 890) (by decide +kernel), List.mem_of_getElem? (i := 1177) (by decide +kernel), List.mem_of_getElem? (i := 1178) (by decide +kernel)⟩
theorem lw_p61 : lw_okq (⟨"WordMintModel", "roomLeft", "(I)I"⟩, 57) := ⟨⟨by decide +kernel, by decide +kernel⟩, List.mem_of_getElem? (i := 890) (by decide +kernel), List.mem_of_getElem? (i := 1189) (by decide +kernel), List.mem_of_getElem? (i := 1190) (by decide +kernel)⟩
theorem lw_p62 : lw_okq (⟨"WordMintModel", "bits", "(I)I"⟩, 57) := ⟨⟨by decide +kernel, by decide +kernel⟩, List.mem_of_getElem? (i := 890) (by decide +kernel), List.mem_of_getElem? (i := 1193) (by decide +kernel), List.mem_of_getElem? (i := 1194) (by decide +kernel)⟩
theorem lw_p63 : lw_okq (⟨"WordMintModel", "choose", "(II)V"⟩, 57) := ⟨⟨by decide +kernel, by decide +kernel⟩, List.mem_of_getElem? (i := 890) (by decide +kernel), List.mem_of_getElem? (i := 1197) (by decide +kernel), List.mem_of_getElem? (i := 1198) (by decide +kernel)⟩
def lw_privs_4 : List (MethodName × Nat) := [(⟨"WordMintModel", "is", "(I)Z"⟩, 57), (⟨"WordMintModel", "fieldOf", "(J)I"⟩, 57), (⟨"WordMintModel", "fault", "(II)V"⟩, 57), (⟨"WordMintModel", "signs", "(I)Z"⟩, 57), (⟨"WordMintModel", "isSign", "(I)Z"⟩, 57), (⟨"WordMintModel", "orderTold", "(I)Z"⟩, 57), (⟨"WordMintModel", "orderOf", "(J)I"⟩, 57), (⟨"WordMintModel", "isAlias", "(J)Z"⟩, 57), (⟨"WordMintModel", "hasField", "(II)I"⟩, 57), (⟨"WordMintModel", "aliasTold", "()Z"⟩, 57), (⟨"WordMintModel", "aliasField", "(II)I"⟩, 57), (⟨"WordMintModel", "roomTold", "()Z"⟩, 57), (⟨"WordMintModel", "takeOver", "()V"⟩, 57), (⟨"WordMintModel", "roomLeft", "(I)I"⟩, 57), (⟨"WordMintModel", "bits", "(I)I"⟩, 57), (⟨"WordMintModel", "choose", "(II)V"⟩, 57)]
theorem lw_r4 : ∀ q ∈ lw_privs_4, lw_okq q := List.forall_mem_cons.mpr ⟨lw_p48, List.forall_mem_cons.mpr ⟨lw_p49, List.forall_mem_cons.mpr ⟨lw_p50, List.forall_mem_cons.mpr ⟨lw_p51, List.forall_mem_cons.mpr ⟨lw_p52, List.forall_mem_cons.mpr ⟨lw_p53, List.forall_mem_cons.mpr ⟨lw_p54, List.forall_mem_cons.mpr ⟨lw_p55, List.forall_mem_cons.mpr ⟨lw_p56, List.forall_mem_cons.mpr ⟨lw_p57, List.forall_mem_cons.mpr ⟨lw_p58, List.forall_mem_cons.mpr ⟨lw_p59, List.forall_mem_cons.mpr ⟨lw_p60, List.forall_mem_cons.mpr ⟨lw_p61, List.forall_mem_cons.mpr ⟨lw_p62, List.forall_mem_cons.mpr ⟨lw_p63, fun _ h => absurd h List.not_mem_nil⟩⟩⟩⟩⟩⟩⟩⟩⟩⟩⟩⟩⟩⟩⟩⟩
theorem lw_p64 : lw_okq (⟨"WordMintModel", "stand", "(I)V"⟩, 57) := ⟨⟨by decide +kernel, by decide +kernel⟩, List.mem_of_getElem? (i := 890) (by decide +kernel), List.mem_of_getElem? (i := 1201) (by decide +kernel), List.mem_of_getElem? (i := 1202) (by decide +kernel)⟩
theorem lw_p65 : lw_okq (⟨"WordMintModel", "fresh", "(I)I"⟩, 57) := ⟨⟨by decide +kernel, by decide +kernel⟩, List.mem_of_getElem? (i := 890) (by decide +kernel), List.mem_of_getElem? (i := 1205) (by decide +kernel), List.mem_of_getElem? (i := 1206) (by decide +kernel)⟩
theorem lw_p66 : lw_okq (⟨"WordMintModel", "nextRow", "(I)Z"⟩, 57) := ⟨⟨by decide +kernel, by decide +kernel⟩, List.mem_of_getElem? (i := 890) (by decide +kernel), List.mem_of_getElem? (i := 1209) (by decide +kernel), List.mem_of_getElem? (i := 1210) (by decide +kernel)⟩
theorem lw_p67 : lw_okq (⟨"WordMintModel", "swap", "(II)V"⟩, 57) := ⟨⟨by decide +kernel, by decide +kernel⟩, List.mem_of_getElem? (i := 890) (by decide +kernel), List.mem_of_getElem? (i := 1213) (by decide +kernel), List.mem_of_getElem? (i := 1214) (by decide +kernel)⟩
theorem lw_p68 : lw_okq (⟨"WordMintModel", "decode", "()V"⟩, 57) := ⟨⟨by decide +kernel, by decide +kernel⟩, List.mem_of_getElem? (i := 890) (by decide +kernel), List.mem_of_getElem? (i := 1217) (by decide +kernel), List.mem_of_getElem? (i := 1218) (by decide +kernel)⟩
theorem lw_p69 : lw_okq (⟨"WordMintModel", "pieces", "()I"⟩, 57) := ⟨⟨by decide +kernel, by decide +kernel⟩, List.mem_of_getElem? (i := 890) (by decide +kernel), List.mem_of_getElem? (i := 1221) (by decide +kernel), List.mem_of_getElem? (i := 1222) (by decide +kernel)⟩
theorem lw_p70 : lw_okq (⟨"WordMintModel", "put", "(IJII)V"⟩, 57) := ⟨⟨by decide +kernel, by decide +kernel⟩, List.mem_of_getElem? (i := 890) (by decide +kernel), List.mem_of_getElem? (i := 1225) (by decide +kernel), List.mem_of_getElem? (i := 1226) (by decide +kernel)⟩
theorem lw_p71 : lw_okq (⟨"WordMintModel", "isEnd", "(II)Z"⟩, 57) := ⟨⟨by decide +kernel, by decide +kernel⟩, List.mem_of_getElem? (i := 890) (by decide +kernel), List.mem_of_getElem? (i := 1229) (by decide +kernel), List.mem_of_getElem? (i := 1230) (by decide +kernel)⟩
theorem lw_p72 : lw_okq (⟨"WordMintModel", "asked", "(II)I"⟩, 57) := ⟨⟨by decide +kernel, by decide +kernel⟩, List.mem_of_getElem? (i := 890) (by decide +kernel), List.mem_of_getElem? (i := 1233) (by decide +kernel), List.mem_of_getElem? (i := 1234) (by decide +kernel)⟩
theorem lw_p73 : lw_okq (⟨"WordMintModel", "bitOf", "(II)I"⟩, 57) := ⟨⟨by decide +kernel, by decide +kernel⟩, List.mem_of_getElem? (i := 890) (by decide +kernel), List.mem_of_getElem? (i := 1237) (by decide +kernel), List.mem_of_getElem? (i := 1238) (by decide +kernel)⟩
theorem lw_p74 : lw_okq (⟨"WordMintModel", "part", "(III)I"⟩, 57) := ⟨⟨by decide +kernel, by decide +kernel⟩, List.mem_of_getElem? (i := 890) (by decide +kernel), List.mem_of_getElem? (i := 1241) (by decide +kernel), List.mem_of_getElem? (i := 1242) (by decide +kernel)⟩
theorem lw_p75 : lw_okq (⟨"WordMintModel", "exchange", "(II)V"⟩, 57) := ⟨⟨by decide +kernel, by decide +kernel⟩, List.mem_of_getElem? (i := 890) (by decide +kernel), List.mem_of_getElem? (i := 1245) (by decide +kernel), List.mem_of_getElem? (i := 1246) (by decide +kernel)⟩
theorem lw_p76 : lw_okq (⟨"WordMintModel", "come", "(II)V"⟩, 57) := ⟨⟨by decide +kernel, by decide +kernel⟩, List.mem_of_getElem? (i := 890) (by decide +kernel), List.mem_of_getElem? (i := 1253) (by decide +kernel), List.mem_of_getElem? (i := 1254) (by decide +kernel)⟩
theorem lw_p77 : lw_okq (⟨"WordMintModel", "isOrder", "(I)Z"⟩, 57) := ⟨⟨by decide +kernel, by decide +kernel⟩, List.mem_of_getElem? (i := 890) (by decide +kernel), List.mem_of_getElem? (i := 1261) (by decide +kernel), List.mem_of_getElem? (i := 1262) (by decide +kernel)⟩
theorem lw_p78 : lw_okq (⟨"WordMintModel", "take", "(IJ)V"⟩, 57) := ⟨⟨by decide +kernel, by decide +kernel⟩, List.mem_of_getElem? (i := 890) (by decide +kernel), List.mem_of_getElem? (i := 1291) (by decide +kernel), List.mem_of_getElem? (i := 1292) (by decide +kernel)⟩
theorem lw_p79 : lw_okq (⟨"WordMintModel", "isHeld", "(II)Z"⟩, 57) := ⟨⟨by decide +kernel, by decide +kernel⟩, List.mem_of_getElem? (i := 890) (by decide +kernel), List.mem_of_getElem? (i := 1295) (by decide +kernel), List.mem_of_getElem? (i := 1296) (by decide +kernel)⟩
def lw_privs_5 : List (MethodName × Nat) := [(⟨"WordMintModel", "stand", "(I)V"⟩, 57), (⟨"WordMintModel", "fresh", "(I)I"⟩, 57), (⟨"WordMintModel", "nextRow", "(I)Z"⟩, 57), (⟨"WordMintModel", "swap", "(II)V"⟩, 57), (⟨"WordMintModel", "decode", "()V"⟩, 57), (⟨"WordMintModel", "pieces", "()I"⟩, 57), (⟨"WordMintModel", "put", "(IJII)V"⟩, 57), (⟨"WordMintModel", "isEnd", "(II)Z"⟩, 57), (⟨"WordMintModel", "asked", "(II)I"⟩, 57), (⟨"WordMintModel", "bitOf", "(II)I"⟩, 57), (⟨"WordMintModel", "part", "(III)I"⟩, 57), (⟨"WordMintModel", "exchange", "(II)V"⟩, 57), (⟨"WordMintModel", "come", "(II)V"⟩, 57), (⟨"WordMintModel", "isOrder", "(I)Z"⟩, 57), (⟨"WordMintModel", "take", "(IJ)V"⟩, 57), (⟨"WordMintModel", "isHeld", "(II)Z"⟩, 57)]
theorem lw_r5 : ∀ q ∈ lw_privs_5, lw_okq q := List.forall_mem_cons.mpr ⟨lw_p64, List.forall_mem_cons.mpr ⟨lw_p65, List.forall_mem_cons.mpr ⟨lw_p66, List.forall_mem_cons.mpr ⟨lw_p67, List.forall_mem_cons.mpr ⟨lw_p68, List.forall_mem_cons.mpr ⟨lw_p69, List.forall_mem_cons.mpr ⟨lw_p70, List.forall_mem_cons.mpr ⟨lw_p71, List.forall_mem_cons.mpr ⟨lw_p72, List.forall_mem_cons.mpr ⟨lw_p73, List.forall_mem_cons.mpr ⟨lw_p74, List.forall_mem_cons.mpr ⟨lw_p75, List.forall_mem_cons.mpr ⟨lw_p76, List.forall_mem_cons.mpr ⟨lw_p77, List.forall_mem_cons.mpr ⟨lw_p78, List.forall_mem_cons.mpr ⟨lw_p79, fun _ h => absurd h List.not_mem_nil⟩⟩⟩⟩⟩⟩⟩⟩⟩⟩⟩⟩⟩⟩⟩⟩
def lw_privs : List (MethodName × Nat) := lw_privs_1 ++ (lw_privs_2 ++ (lw_privs_3 ++ (lw_privs_4 ++ (lw_privs_5))))
def lw_tbl : List Cond := k2_sels lw_privs ++ tables_1
theorem lw_privs_ok : ∀ q ∈ lw_privs, lw_okq q := by
  show ∀ q ∈ lw_privs_1 ++ (lw_privs_2 ++ (lw_privs_3 ++ (lw_privs_4 ++ (lw_privs_5)))), lw_okq q
  exact List.forall_mem_append.mpr ⟨lw_r1, List.forall_mem_append.mpr ⟨lw_r2, List.forall_mem_append.mpr ⟨lw_r3, List.forall_mem_append.mpr ⟨lw_r4, lw_r5⟩⟩⟩⟩
/-! the classes whose objects the worlds hold -/
def RX0 : String := "WordMint$Chooser"
def TX0 : u_T := fun k => match k with
  | 0 => ("WordMint$Chooser", "pile", "[J", true)
  | _ => ("WordMint$Chooser", "piled", "I", false)
def tyX0 : Nat → FieldType := fun k => match k with
  | 0 => .array .long
  | _ => .int
theorem nmX0 : ∀ a, a < 2 → ∀ b, b < 2 → a ≠ b → (TX0 a).2.1 ≠ (TX0 b).2.1 := by decide +kernel
theorem tyX0_ok : ∀ k, k < 2 → parseFieldDescriptor (TX0 k).2.2.1 = some (tyX0 k) := by decide +kernel
def RX1 : String := "WordMint$Decoder"
def TX1 : u_T := fun k => match k with
  | 0 => ("WordMint$Decoder", "stale", "Z", false)
  | 1 => ("WordMint$Decoder", "asked", "I", false)
  | 2 => ("WordMint$Decoder", "deepest", "I", false)
  | 3 => ("WordMint$Decoder", "ends", "I", false)
  | 4 => ("WordMint$Decoder", "testsAhead", "[I", true)
  | 5 => ("WordMint$Decoder", "heads", "[I", true)
  | 6 => ("WordMint$Decoder", "lengths", "[I", true)
  | 7 => ("WordMint$Decoder", "owners", "[I", true)
  | 8 => ("WordMint$Decoder", "size", "I", false)
  | 9 => ("WordMint$Decoder", "openEnds", "[I", true)
  | _ => ("WordMint$Decoder", "openDepths", "[I", true)
def tyX1 : Nat → FieldType := fun k => match k with
  | 0 => .boolean
  | 1 => .int
  | 2 => .int
  | 3 => .int
  | 4 => .array .int
  | 5 => .array .int
  | 6 => .array .int
  | 7 => .array .int
  | 8 => .int
  | 9 => .array .int
  | _ => .array .int
theorem nmX1 : ∀ a, a < 11 → ∀ b, b < 11 → a ≠ b → (TX1 a).2.1 ≠ (TX1 b).2.1 := by decide +kernel
theorem tyX1_ok : ∀ k, k < 11 → parseFieldDescriptor (TX1 k).2.2.1 = some (tyX1 k) := by decide +kernel
def RX2 : String := "WordMint$Layout"
def TX2 : u_T := fun k => match k with
  | 0 => ("WordMint$Layout", "unit", "I", false)
  | 1 => ("WordMint$Layout", "cost", "I", false)
  | 2 => ("WordMint$Layout", "units", "[I", true)
  | 3 => ("WordMint$Layout", "markBits", "[I", true)
  | 4 => ("WordMint$Layout", "marks", "[J", true)
  | 5 => ("WordMint$Layout", "came", "[Z", true)
  | 6 => ("WordMint$Layout", "places", "[I", true)
  | 7 => ("WordMint$Layout", "roomMarkBits", "[I", true)
  | 8 => ("WordMint$Layout", "roomMarks", "[J", true)
  | 9 => ("WordMint$Layout", "taken", "[I", true)
  | 10 => ("WordMint$Layout", "placesSeen", "[I", true)
  | _ => ("WordMint$Layout", "rowChooser", "LWordMint$RowChooser;", true)
def tyX2 : Nat → FieldType := fun k => match k with
  | 0 => .int
  | 1 => .int
  | 2 => .array .int
  | 3 => .array .int
  | 4 => .array .long
  | 5 => .array .boolean
  | 6 => .array .int
  | 7 => .array .int
  | 8 => .array .long
  | 9 => .array .int
  | 10 => .array .int
  | _ => .object "WordMint$RowChooser"
theorem nmX2 : ∀ a, a < 12 → ∀ b, b < 12 → a ≠ b → (TX2 a).2.1 ≠ (TX2 b).2.1 := by decide +kernel
theorem tyX2_ok : ∀ k, k < 12 → parseFieldDescriptor (TX2 k).2.2.1 = some (tyX2 k) := by decide +kernel
def RX3 : String := "WordMint$Parser"
def TX3 : u_T := fun k => match k with
  | 0 => ("WordMint$Parser", "scanner", "LWordMint$Scanner;", true)
  | 1 => ("WordMint$Parser", "kinds", "[I", true)
  | 2 => ("WordMint$Parser", "begins", "[I", true)
  | 3 => ("WordMint$Parser", "values", "[J", true)
  | 4 => ("WordMint$Parser", "size", "I", false)
  | 5 => ("WordMint$Parser", "faultPlace", "I", false)
  | 6 => ("WordMint$Parser", "oneOrder", "Z", false)
  | 7 => ("WordMint$Parser", "fields", "I", false)
  | 8 => ("WordMint$Parser", "orders", "I", false)
  | 9 => ("WordMint$Parser", "aliases", "I", false)
  | 10 => ("WordMint$Parser", "rooms", "I", false)
  | _ => ("WordMint$Parser", "members", "I", false)
def tyX3 : Nat → FieldType := fun k => match k with
  | 0 => .object "WordMint$Scanner"
  | 1 => .array .int
  | 2 => .array .int
  | 3 => .array .long
  | 4 => .int
  | 5 => .int
  | 6 => .boolean
  | 7 => .int
  | 8 => .int
  | 9 => .int
  | 10 => .int
  | _ => .int
theorem nmX3 : ∀ a, a < 12 → ∀ b, b < 12 → a ≠ b → (TX3 a).2.1 ≠ (TX3 b).2.1 := by decide +kernel
theorem tyX3_ok : ∀ k, k < 12 → parseFieldDescriptor (TX3 k).2.2.1 = some (tyX3 k) := by decide +kernel
def RX4 : String := "WordMint$Reading"
def TX4 : u_T := fun k => match k with
  | 0 => ("WordMint$Reading", "order", "I", false)
  | 1 => ("WordMint$Reading", "alias", "I", false)
  | 2 => ("WordMint$Reading", "size", "I", false)
  | _ => ("WordMint$Reading", "numbers", "[I", true)
def tyX4 : Nat → FieldType := fun k => match k with
  | 0 => .int
  | 1 => .int
  | 2 => .int
  | _ => .array .int
theorem nmX4 : ∀ a, a < 4 → ∀ b, b < 4 → a ≠ b → (TX4 a).2.1 ≠ (TX4 b).2.1 := by decide +kernel
theorem tyX4_ok : ∀ k, k < 4 → parseFieldDescriptor (TX4 k).2.2.1 = some (tyX4 k) := by decide +kernel
def RX5 : String := "WordMint$RowChooser"
def TX5 : u_T := fun k => match k with
  | 0 => ("WordMint$RowChooser", "bitsOf", "[I", true)
  | _ => ("WordMint$RowChooser", "fewestNew", "[I", true)
def tyX5 : Nat → FieldType := fun k => match k with
  | 0 => .array .int
  | _ => .array .int
theorem nmX5 : ∀ a, a < 2 → ∀ b, b < 2 → a ≠ b → (TX5 a).2.1 ≠ (TX5 b).2.1 := by decide +kernel
theorem tyX5_ok : ∀ k, k < 2 → parseFieldDescriptor (TX5 k).2.2.1 = some (tyX5 k) := by decide +kernel
def RX6 : String := "WordMint$Scanner"
def TX6 : u_T := fun k => match k with
  | 0 => ("WordMint$Scanner", "kind", "I", false)
  | 1 => ("WordMint$Scanner", "begin", "I", false)
  | 2 => ("WordMint$Scanner", "behind", "I", false)
  | _ => ("WordMint$Scanner", "value", "J", false)
def tyX6 : Nat → FieldType := fun k => match k with
  | 0 => .int
  | 1 => .int
  | 2 => .int
  | _ => .long
theorem nmX6 : ∀ a, a < 4 → ∀ b, b < 4 → a ≠ b → (TX6 a).2.1 ≠ (TX6 b).2.1 := by decide +kernel
theorem tyX6_ok : ∀ k, k < 4 → parseFieldDescriptor (TX6 k).2.2.1 = some (tyX6 k) := by decide +kernel
def RX7 : String := "WordMint$Tape"
def TX7 : u_T := fun k => match k with
  | 0 => ("WordMint$Tape", "bytes", "[B", true)
  | _ => ("WordMint$Tape", "length", "I", false)
def tyX7 : Nat → FieldType := fun k => match k with
  | 0 => .array .byte
  | _ => .int
theorem nmX7 : ∀ a, a < 2 → ∀ b, b < 2 → a ≠ b → (TX7 a).2.1 ≠ (TX7 b).2.1 := by decide +kernel
theorem tyX7_ok : ∀ k, k < 2 → parseFieldDescriptor (TX7 k).2.2.1 = some (tyX7 k) := by decide +kernel
def RX8 : String := "WordMint$Teller"
def TX8 : u_T := fun k => match k with
  | 0 => ("WordMint$Teller", "parser", "LWordMint$Parser;", true)
  | _ => ("WordMint$Teller", "behind", "I", false)
def tyX8 : Nat → FieldType := fun k => match k with
  | 0 => .object "WordMint$Parser"
  | _ => .int
theorem nmX8 : ∀ a, a < 2 → ∀ b, b < 2 → a ≠ b → (TX8 a).2.1 ≠ (TX8 b).2.1 := by decide +kernel
theorem tyX8_ok : ∀ k, k < 2 → parseFieldDescriptor (TX8 k).2.2.1 = some (tyX8 k) := by decide +kernel
def RX9 : String := "WordMint$Told"
def TX9 : u_T := fun k => match k with
  | 0 => ("WordMint$Told", "fields", "I", false)
  | 1 => ("WordMint$Told", "fieldNames", "[J", true)
  | 2 => ("WordMint$Told", "widths", "[I", true)
  | 3 => ("WordMint$Told", "orders", "I", false)
  | 4 => ("WordMint$Told", "orderNames", "[J", true)
  | 5 => ("WordMint$Told", "uses", "[I", true)
  | 6 => ("WordMint$Told", "sizes", "[I", true)
  | 7 => ("WordMint$Told", "bits", "[I", true)
  | 8 => ("WordMint$Told", "members", "[I", true)
  | 9 => ("WordMint$Told", "aliases", "I", false)
  | 10 => ("WordMint$Told", "aliasNames", "[J", true)
  | 11 => ("WordMint$Told", "aliasOrders", "[I", true)
  | 12 => ("WordMint$Told", "heldCounts", "[I", true)
  | 13 => ("WordMint$Told", "heldFields", "[I", true)
  | 14 => ("WordMint$Told", "heldNumbers", "[I", true)
  | 15 => ("WordMint$Told", "rooms", "I", false)
  | 16 => ("WordMint$Told", "roomOrders", "[I", true)
  | _ => ("WordMint$Told", "roomBits", "[I", true)
def tyX9 : Nat → FieldType := fun k => match k with
  | 0 => .int
  | 1 => .array .long
  | 2 => .array .int
  | 3 => .int
  | 4 => .array .long
  | 5 => .array .int
  | 6 => .array .int
  | 7 => .array .int
  | 8 => .array .int
  | 9 => .int
  | 10 => .array .long
  | 11 => .array .int
  | 12 => .array .int
  | 13 => .array .int
  | 14 => .array .int
  | 15 => .int
  | 16 => .array .int
  | _ => .array .int
theorem nmX9 : ∀ a, a < 18 → ∀ b, b < 18 → a ≠ b → (TX9 a).2.1 ≠ (TX9 b).2.1 := by decide +kernel
theorem tyX9_ok : ∀ k, k < 18 → parseFieldDescriptor (TX9 k).2.2.1 = some (tyX9 k) := by decide +kernel
def RX10 : String := "WordMint"
def TX10 : u_T := fun k => match k with
  | 0 => ("WordMint", "tape", "LWordMint$Tape;", true)
  | 1 => ("WordMint", "parser", "LWordMint$Parser;", true)
  | 2 => ("WordMint", "teller", "LWordMint$Teller;", true)
  | 3 => ("WordMint", "told", "LWordMint$Told;", false)
  | 4 => ("WordMint", "draft", "LWordMint$Told;", false)
  | 5 => ("WordMint", "chooser", "LWordMint$Chooser;", true)
  | 6 => ("WordMint", "layout", "LWordMint$Layout;", true)
  | 7 => ("WordMint", "decoder", "LWordMint$Decoder;", true)
  | 8 => ("WordMint", "reading", "LWordMint$Reading;", true)
  | 9 => ("WordMint", "given", "[I", true)
  | _ => ("WordMint", "faultPlace", "I", false)
def tyX10 : Nat → FieldType := fun k => match k with
  | 0 => .object "WordMint$Tape"
  | 1 => .object "WordMint$Parser"
  | 2 => .object "WordMint$Teller"
  | 3 => .object "WordMint$Told"
  | 4 => .object "WordMint$Told"
  | 5 => .object "WordMint$Chooser"
  | 6 => .object "WordMint$Layout"
  | 7 => .object "WordMint$Decoder"
  | 8 => .object "WordMint$Reading"
  | 9 => .array .int
  | _ => .int
theorem nmX10 : ∀ a, a < 11 → ∀ b, b < 11 → a ≠ b → (TX10 a).2.1 ≠ (TX10 b).2.1 := by decide +kernel
theorem tyX10_ok : ∀ k, k < 11 → parseFieldDescriptor (TX10 k).2.2.1 = some (tyX10 k) := by decide +kernel
def RX11 : String := "WordMintModel"
def TX11 : u_T := fun k => match k with
  | 0 => ("WordMintModel", "tape", "[B", true)
  | 1 => ("WordMintModel", "taped", "I", false)
  | 2 => ("WordMintModel", "faultKind", "I", false)
  | 3 => ("WordMintModel", "faultPlace", "I", false)
  | 4 => ("WordMintModel", "fields", "[I", true)
  | 5 => ("WordMintModel", "fieldName", "[J", true)
  | 6 => ("WordMintModel", "width", "[I", true)
  | 7 => ("WordMintModel", "orders", "[I", true)
  | 8 => ("WordMintModel", "orderName", "[J", true)
  | 9 => ("WordMintModel", "use", "[I", true)
  | 10 => ("WordMintModel", "many", "[I", true)
  | 11 => ("WordMintModel", "has", "[I", true)
  | 12 => ("WordMintModel", "aliases", "[I", true)
  | 13 => ("WordMintModel", "aliasName", "[J", true)
  | 14 => ("WordMintModel", "aliasOf", "[I", true)
  | 15 => ("WordMintModel", "holds", "[I", true)
  | 16 => ("WordMintModel", "heldField", "[I", true)
  | 17 => ("WordMintModel", "held", "[I", true)
  | 18 => ("WordMintModel", "rooms", "[I", true)
  | 19 => ("WordMintModel", "roomMany", "[I", true)
  | 20 => ("WordMintModel", "roomBits", "[I", true)
  | 21 => ("WordMintModel", "unit", "I", false)
  | 22 => ("WordMintModel", "cost", "I", false)
  | 23 => ("WordMintModel", "units", "[I", true)
  | 24 => ("WordMintModel", "markBits", "[I", true)
  | 25 => ("WordMintModel", "mark", "[J", true)
  | 26 => ("WordMintModel", "isCome", "[Z", true)
  | 27 => ("WordMintModel", "spot", "[I", true)
  | 28 => ("WordMintModel", "spots", "[I", true)
  | 29 => ("WordMintModel", "roomMark", "[J", true)
  | 30 => ("WordMintModel", "taken", "[I", true)
  | 31 => ("WordMintModel", "given", "[I", true)
  | 32 => ("WordMintModel", "readOrder", "I", false)
  | 33 => ("WordMintModel", "readAlias", "I", false)
  | 34 => ("WordMintModel", "readNumber", "[I", true)
  | 35 => ("WordMintModel", "kind", "I", false)
  | 36 => ("WordMintModel", "begin", "I", false)
  | 37 => ("WordMintModel", "end", "I", false)
  | 38 => ("WordMintModel", "sign", "I", false)
  | 39 => ("WordMintModel", "letters", "J", false)
  | 40 => ("WordMintModel", "number", "I", false)
  | 41 => ("WordMintModel", "tokens", "I", false)
  | 42 => ("WordMintModel", "half", "I", false)
  | 43 => ("WordMintModel", "saves", "[I", true)
  | 44 => ("WordMintModel", "isShort", "[J", true)
  | 45 => ("WordMintModel", "row", "[I", true)
  | 46 => ("WordMintModel", "bestRow", "[I", true)
  | 47 => ("WordMintModel", "piece", "[J", true)
  | 48 => ("WordMintModel", "pieceBits", "[I", true)
  | 49 => ("WordMintModel", "pieceOf", "[I", true)
  | 50 => ("WordMintModel", "waitFrom", "[I", true)
  | 51 => ("WordMintModel", "waitTo", "[I", true)
  | 52 => ("WordMintModel", "waitDepth", "[I", true)
  | 53 => ("WordMintModel", "depthOf", "[I", true)
  | 54 => ("WordMintModel", "testMany", "I", false)
  | 55 => ("WordMintModel", "testMost", "I", false)
  | _ => ("WordMintModel", "endMany", "I", false)
def tyX11 : Nat → FieldType := fun k => match k with
  | 0 => .array .byte
  | 1 => .int
  | 2 => .int
  | 3 => .int
  | 4 => .array .int
  | 5 => .array .long
  | 6 => .array .int
  | 7 => .array .int
  | 8 => .array .long
  | 9 => .array .int
  | 10 => .array .int
  | 11 => .array .int
  | 12 => .array .int
  | 13 => .array .long
  | 14 => .array .int
  | 15 => .array .int
  | 16 => .array .int
  | 17 => .array .int
  | 18 => .array .int
  | 19 => .array .int
  | 20 => .array .int
  | 21 => .int
  | 22 => .int
  | 23 => .array .int
  | 24 => .array .int
  | 25 => .array .long
  | 26 => .array .boolean
  | 27 => .array .int
  | 28 => .array .int
  | 29 => .array .long
  | 30 => .array .int
  | 31 => .array .int
  | 32 => .int
  | 33 => .int
  | 34 => .array .int
  | 35 => .int
  | 36 => .int
  | 37 => .int
  | 38 => .int
  | 39 => .long
  | 40 => .int
  | 41 => .int
  | 42 => .int
  | 43 => .array .int
  | 44 => .array .long
  | 45 => .array .int
  | 46 => .array .int
  | 47 => .array .long
  | 48 => .array .int
  | 49 => .array .int
  | 50 => .array .int
  | 51 => .array .int
  | 52 => .array .int
  | 53 => .array .int
  | 54 => .int
  | 55 => .int
  | _ => .int
theorem nmX11 : ∀ a, a < 57 → ∀ b, b < 57 → a ≠ b → (TX11 a).2.1 ≠ (TX11 b).2.1 := by decide +kernel
theorem tyX11_ok : ∀ k, k < 57 → parseFieldDescriptor (TX11 k).2.2.1 = some (tyX11 k) := by decide +kernel
abbrev vwCl : List vw_C := [(RX0, TX0, 2), (RX1, TX1, 11), (RX2, TX2, 12), (RX3, TX3, 12), (RX4, TX4, 4), (RX5, TX5, 2), (RX6, TX6, 4), (RX7, TX7, 2), (RX8, TX8, 2), (RX9, TX9, 18), (RX10, TX10, 11), (RX11, TX11, 57)]
theorem inX0 : ∀ w ∈ u_ws RX0 TX0 2, w ∈ lw_tbl := by decide +kernel
theorem inX1 : ∀ w ∈ u_ws RX1 TX1 11, w ∈ lw_tbl := by decide +kernel
theorem inX2 : ∀ w ∈ u_ws RX2 TX2 12, w ∈ lw_tbl := by decide +kernel
theorem inX3 : ∀ w ∈ u_ws RX3 TX3 12, w ∈ lw_tbl := by decide +kernel
theorem inX4 : ∀ w ∈ u_ws RX4 TX4 4, w ∈ lw_tbl := by decide +kernel
theorem inX5 : ∀ w ∈ u_ws RX5 TX5 2, w ∈ lw_tbl := by decide +kernel
theorem inX6 : ∀ w ∈ u_ws RX6 TX6 4, w ∈ lw_tbl := by decide +kernel
theorem inX7 : ∀ w ∈ u_ws RX7 TX7 2, w ∈ lw_tbl := by decide +kernel
theorem inX8 : ∀ w ∈ u_ws RX8 TX8 2, w ∈ lw_tbl := by decide +kernel
theorem inX9 : ∀ w ∈ u_ws RX9 TX9 18, w ∈ lw_tbl := by decide +kernel
theorem inX10 : ∀ w ∈ u_ws RX10 TX10 11, w ∈ lw_tbl := by decide +kernel
theorem inX11 : ∀ w ∈ u_ws RX11 TX11 57, w ∈ lw_tbl := by decide +kernel
/-- name, code, locals, answer; frames, local words, cells, slots that a call may take -/
abbrev mRowT : Type := MethodName × ByteArray × Nat × Option FieldType × Nat × Nat × Nat × Nat
def mTab : List mRowT := [
  (⟨"WordMint$Chooser", "<init>", "()V"⟩, prog_2_method_1_code, 1, none, 1, 20, 1, 40),
  (⟨"WordMint$Chooser", "choose", "(LWordMint$Told;I)J"⟩, prog_2_method_2_code, 13, (some .long), 3, 65, 0, 0),
  (⟨"WordMint$Chooser", "bitOf", "(I)J"⟩, prog_2_method_3_code, 1, (some .long), 0, 0, 0, 0),
  (⟨"WordMint$Chooser", "worthOf", "(LWordMint$Told;I)J"⟩, prog_2_method_4_code, 2, (some .long), 1, 20, 0, 0),
  (⟨"WordMint$Chooser", "spareIfAllLong", "(LWordMint$Told;I)J"⟩, prog_2_method_5_code, 5, (some .long), 0, 0, 0, 0),
  (⟨"WordMint$Chooser", "pileOrders", "(LWordMint$Told;II)V"⟩, prog_2_method_6_code, 5, none, 2, 41, 0, 0),
  (⟨"WordMint$Chooser", "pileOne", "(J)V"⟩, prog_2_method_7_code, 4, none, 0, 0, 0, 0),
  (⟨"WordMint$Chooser", "pairUp", "(I)V"⟩, prog_2_method_8_code, 4, none, 0, 0, 0, 0),
  (⟨"WordMint$Decoder", "<init>", "()V"⟩, prog_3_method_1_code, 1, none, 1, 20, 6, 994),
  (⟨"WordMint$Decoder", "refresh", "(LWordMint$Told;LWordMint$Layout;)V"⟩, prog_3_method_2_code, 3, none, 4, 100, 0, 0),
  (⟨"WordMint$Decoder", "gather", "(LWordMint$Told;LWordMint$Layout;)V"⟩, prog_3_method_3_code, 5, none, 1, 24, 0, 0),
  (⟨"WordMint$Decoder", "keepMark", "(JII)V"⟩, prog_3_method_4_code, 5, none, 0, 0, 0, 0),
  (⟨"WordMint$Decoder", "grow", "()V"⟩, prog_3_method_5_code, 7, none, 3, 74, 0, 0),
  (⟨"WordMint$Decoder", "setEnd", "(II)V"⟩, prog_3_method_6_code, 3, none, 1, 21, 0, 0),
  (⟨"WordMint$Decoder", "isEnd", "(II)Z"⟩, prog_3_method_7_code, 4, (some .boolean), 0, 0, 0, 0),
  (⟨"WordMint$Decoder", "bitToAsk", "(II)I"⟩, prog_3_method_8_code, 9, (some .int), 2, 46, 0, 0),
  (⟨"WordMint$Decoder", "differingBits", "(II)I"⟩, prog_3_method_9_code, 6, (some .int), 1, 21, 0, 0),
  (⟨"WordMint$Decoder", "ones", "(III)I"⟩, prog_3_method_10_code, 6, (some .int), 1, 21, 0, 0),
  (⟨"WordMint$Decoder", "bitOf", "(II)I"⟩, prog_3_method_11_code, 2, (some .int), 0, 0, 0, 0),
  (⟨"WordMint$Decoder", "part", "(III)I"⟩, prog_3_method_12_code, 6, (some .int), 1, 25, 0, 0),
  (⟨"WordMint$Decoder", "swap", "(II)V"⟩, prog_3_method_13_code, 6, none, 0, 0, 0, 0),
  (⟨"WordMint$Layout", "<init>", "()V"⟩, prog_4_method_1_code, 1, none, 2, 40, 12, 554),
  (⟨"WordMint$Layout", "layAll", "(LWordMint$Told;JI)V"⟩, prog_4_method_2_code, 6, none, 3, 81, 0, 0),
  (⟨"WordMint$Layout", "layComing", "(LWordMint$Told;I)Z"⟩, prog_4_method_3_code, 4, (some .boolean), 3, 81, 0, 0),
  (⟨"WordMint$Layout", "setPlace", "(LWordMint$Told;III)V"⟩, prog_4_method_4_code, 5, none, 0, 0, 0, 0),
  (⟨"WordMint$Layout", "shortOrders", "(LWordMint$Told;)I"⟩, prog_4_method_5_code, 4, (some .int), 0, 0, 0, 0),
  (⟨"WordMint$Layout", "freeMarks", "(LWordMint$Told;)I"⟩, prog_4_method_6_code, 4, (some .int), 0, 0, 0, 0),
  (⟨"WordMint$Layout", "wordAhead", "(IJI)J"⟩, prog_4_method_7_code, 7, (some .long), 0, 0, 0, 0),
  (⟨"WordMint$Layout", "setUnits", "(LWordMint$Told;II)V"⟩, prog_4_method_8_code, 4, none, 0, 0, 0, 0),
  (⟨"WordMint$Layout", "setMarks", "(LWordMint$Told;)V"⟩, prog_4_method_9_code, 6, none, 0, 0, 0, 0),
  (⟨"WordMint$Layout", "roomFor", "(LWordMint$Told;I)I"⟩, prog_4_method_10_code, 4, (some .int), 0, 0, 0, 0),
  (⟨"WordMint$Parser", "<init>", "()V"⟩, prog_5_method_1_code, 1, none, 2, 40, 4, 1804),
  (⟨"WordMint$Parser", "parse", "(LWordMint$Tape;ZI)I"⟩, prog_5_method_2_code, 7, (some .int), 9, 197, 0, 0),
  (⟨"WordMint$Parser", "faultAt", "(II)I"⟩, prog_5_method_3_code, 3, (some .int), 0, 0, 0, 0),
  (⟨"WordMint$Parser", "faultAtToken", "(II)I"⟩, prog_5_method_4_code, 3, (some .int), 1, 22, 0, 0),
  (⟨"WordMint$Parser", "kindAt", "(I)I"⟩, prog_5_method_5_code, 2, (some .int), 0, 0, 0, 0),
  (⟨"WordMint$Parser", "valueAt", "(I)J"⟩, prog_5_method_6_code, 2, (some .long), 0, 0, 0, 0),
  (⟨"WordMint$Parser", "forget", "()V"⟩, prog_5_method_7_code, 1, none, 0, 0, 0, 0),
  (⟨"WordMint$Parser", "keepToken", "()V"⟩, prog_5_method_8_code, 1, none, 0, 0, 0, 0),
  (⟨"WordMint$Parser", "goesOn", "(I)Z"⟩, prog_5_method_9_code, 2, (some .boolean), 1, 22, 0, 0),
  (⟨"WordMint$Parser", "stateBehind", "(I)I"⟩, prog_5_method_10_code, 3, (some .int), 0, 0, 0, 0),
  (⟨"WordMint$Parser", "hasRoom", "(I)Z"⟩, prog_5_method_11_code, 2, (some .boolean), 1, 20, 0, 0),
  (⟨"WordMint$Parser", "hasRoomForTell", "()Z"⟩, prog_5_method_12_code, 1, (some .boolean), 0, 0, 0, 0),
  (⟨"WordMint$Reading", "<init>", "()V"⟩, prog_6_method_1_code, 1, none, 1, 20, 1, 6),
  (⟨"WordMint$Reading", "keep", "(LWordMint$Told;LWordMint$Layout;IJ)V"⟩, prog_6_method_2_code, 8, none, 3, 69, 0, 0),
  (⟨"WordMint$Reading", "firstAlias", "(LWordMint$Told;)I"⟩, prog_6_method_3_code, 3, (some .int), 2, 47, 0, 0),
  (⟨"WordMint$Reading", "fits", "(LWordMint$Told;I)Z"⟩, prog_6_method_4_code, 5, (some .boolean), 1, 23, 0, 0),
  (⟨"WordMint$RowChooser", "<init>", "()V"⟩, prog_7_method_1_code, 1, none, 1, 20, 2, 128),
  (⟨"WordMint$RowChooser", "choose", "(LWordMint$Told;ILWordMint$Layout;)V"⟩, prog_7_method_2_code, 9, none, 2, 53, 0, 0),
  (⟨"WordMint$RowChooser", "weigh", "(LWordMint$Told;IILWordMint$Layout;)V"⟩, prog_7_method_3_code, 8, none, 1, 26, 0, 0),
  (⟨"WordMint$RowChooser", "newIfFirst", "(LWordMint$Told;IIILWordMint$Layout;)I"⟩, prog_7_method_4_code, 7, (some .int), 0, 0, 0, 0),
  (⟨"WordMint$RowChooser", "firstToStand", "(LWordMint$Told;IILWordMint$Layout;)I"⟩, prog_7_method_5_code, 6, (some .int), 1, 26, 0, 0),
  (⟨"WordMint$Scanner", "<init>", "()V"⟩, prog_8_method_1_code, 1, none, 1, 20, 0, 0),
  (⟨"WordMint$Scanner", "scan", "(LWordMint$Tape;I)V"⟩, prog_8_method_2_code, 4, none, 8, 174, 0, 0),
  (⟨"WordMint$Scanner", "scanWord", "(LWordMint$Tape;)V"⟩, prog_8_method_3_code, 3, none, 7, 152, 0, 0),
  (⟨"WordMint$Scanner", "scanNumber", "(LWordMint$Tape;)V"⟩, prog_8_method_4_code, 3, none, 1, 21, 0, 0),
  (⟨"WordMint$Scanner", "behindBlanks", "(LWordMint$Tape;I)I"⟩, prog_8_method_5_code, 3, (some .int), 1, 21, 0, 0),
  (⟨"WordMint$Scanner", "wordKind", "(LWordMint$Tape;II)I"⟩, prog_8_method_6_code, 3, (some .int), 6, 130, 0, 0),
  (⟨"WordMint$Scanner", "signKind", "(I)I"⟩, prog_8_method_7_code, 1, (some .int), 0, 0, 0, 0),
  (⟨"WordMint$Scanner", "isBlank", "(I)Z"⟩, prog_8_method_8_code, 1, (some .boolean), 0, 0, 0, 0),
  (⟨"WordMint$Scanner", "isLetter", "(I)Z"⟩, prog_8_method_9_code, 1, (some .boolean), 0, 0, 0, 0),
  (⟨"WordMint$Scanner", "isDigit", "(I)Z"⟩, prog_8_method_10_code, 1, (some .boolean), 0, 0, 0, 0),
  (⟨"WordMint$Scanner", "isLetterOrDigit", "(I)Z"⟩, prog_8_method_11_code, 1, (some .boolean), 1, 20, 0, 0),
  (⟨"WordMint$Scanner", "letterCode", "(I)I"⟩, prog_8_method_12_code, 1, (some .int), 1, 20, 0, 0),
  (⟨"WordMint$Tape", "<init>", "()V"⟩, prog_9_method_1_code, 1, none, 1, 20, 1, 3000),
  (⟨"WordMint$Tape", "append", "(I)V"⟩, prog_9_method_2_code, 3, none, 0, 0, 0, 0),
  (⟨"WordMint$Tape", "byteAt", "(I)I"⟩, prog_9_method_3_code, 2, (some .int), 0, 0, 0, 0),
  (⟨"WordMint$Tape", "spells", "(Ljava/lang/String;II)Z"⟩, prog_9_method_4_code, 5, (some .boolean), 5, 106, 0, 0),
  (⟨"WordMint$Teller", "<init>", "(LWordMint$Parser;)V"⟩, prog_10_method_1_code, 2, none, 1, 20, 0, 0),
  (⟨"WordMint$Teller", "tellAll", "(LWordMint$Told;)I"⟩, prog_10_method_2_code, 4, (some .int), 5, 124, 0, 0),
  (⟨"WordMint$Teller", "tellComing", "(LWordMint$Told;)I"⟩, prog_10_method_3_code, 2, (some .int), 4, 99, 0, 0),
  (⟨"WordMint$Teller", "tellNext", "(LWordMint$Told;I)I"⟩, prog_10_method_4_code, 4, (some .int), 4, 101, 0, 0),
  (⟨"WordMint$Teller", "tellField", "(LWordMint$Told;I)I"⟩, prog_10_method_5_code, 7, (some .int), 2, 46, 0, 0),
  (⟨"WordMint$Teller", "tellOrder", "(LWordMint$Told;I)I"⟩, prog_10_method_6_code, 8, (some .int), 3, 72, 0, 0),
  (⟨"WordMint$Teller", "tellMembers", "(LWordMint$Told;II)I"⟩, prog_10_method_7_code, 7, (some .int), 2, 46, 0, 0),
  (⟨"WordMint$Teller", "bitsOfKnownFields", "(LWordMint$Told;I)I"⟩, prog_10_method_8_code, 7, (some .int), 2, 46, 0, 0),
  (⟨"WordMint$Teller", "tellAlias", "(LWordMint$Told;I)I"⟩, prog_10_method_9_code, 8, (some .int), 3, 74, 0, 0),
  (⟨"WordMint$Teller", "tellHeld", "(LWordMint$Told;II)I"⟩, prog_10_method_10_code, 9, (some .int), 2, 46, 0, 0),
  (⟨"WordMint$Teller", "isHeld", "(LWordMint$Told;II)Z"⟩, prog_10_method_11_code, 4, (some .boolean), 0, 0, 0, 0),
  (⟨"WordMint$Teller", "tellRoom", "(LWordMint$Told;I)I"⟩, prog_10_method_12_code, 6, (some .int), 2, 44, 0, 0),
  (⟨"WordMint$Told", "<init>", "()V"⟩, prog_11_method_1_code, 1, none, 1, 20, 14, 672),
  (⟨"WordMint$Told", "clear", "()V"⟩, prog_11_method_2_code, 1, none, 0, 0, 0, 0),
  (⟨"WordMint$Told", "fieldNamed", "(J)I"⟩, prog_11_method_3_code, 3, (some .int), 1, 24, 0, 0),
  (⟨"WordMint$Told", "orderNamed", "(J)I"⟩, prog_11_method_4_code, 3, (some .int), 1, 24, 0, 0),
  (⟨"WordMint$Told", "hasOrderOrAlias", "(J)Z"⟩, prog_11_method_5_code, 3, (some .boolean), 2, 46, 0, 0),
  (⟨"WordMint$Told", "memberOf", "(II)I"⟩, prog_11_method_6_code, 4, (some .int), 0, 0, 0, 0),
  (⟨"WordMint$Told", "ordersWith", "(I)I"⟩, prog_11_method_7_code, 4, (some .int), 1, 23, 0, 0),
  (⟨"WordMint$Told", "holds", "(IJ)Z"⟩, prog_11_method_8_code, 4, (some .boolean), 0, 0, 0, 0),
  (⟨"WordMint$Told", "indexOf", "([JIJ)I"⟩, prog_11_method_9_code, 5, (some .int), 0, 0, 0, 0),
  (⟨"WordMint", "<init>", "()V"⟩, prog_1_method_1_code, 1, none, 3, 60, 63, 7829),
  (⟨"WordMint", "feed", "(IIIII)I"⟩, prog_1_method_2_code, 6, (some .int), 1, 22, 0, 0),
  (⟨"WordMint", "back", "(I)I"⟩, prog_1_method_3_code, 2, (some .int), 0, 0, 0, 0),
  (⟨"WordMint", "read", "()I"⟩, prog_1_method_4_code, 3, (some .int), 10, 223, 0, 0),
  (⟨"WordMint", "place", "()I"⟩, prog_1_method_5_code, 1, (some .int), 0, 0, 0, 0),
  (⟨"WordMint", "lay", "(I)I"⟩, prog_1_method_6_code, 4, (some .int), 4, 106, 0, 0),
  (⟨"WordMint", "add", "()I"⟩, prog_1_method_7_code, 3, (some .int), 10, 223, 0, 0),
  (⟨"WordMint", "order", "(II)I"⟩, prog_1_method_8_code, 3, (some .int), 6, 144, 0, 0),
  (⟨"WordMint", "orderAsLaid", "(II)I"⟩, prog_1_method_9_code, 3, (some .int), 5, 122, 0, 0),
  (⟨"WordMint", "field", "(II)I"⟩, prog_1_method_10_code, 3, (some .int), 2, 46, 0, 0),
  (⟨"WordMint", "room", "(II)I"⟩, prog_1_method_11_code, 3, (some .int), 0, 0, 0, 0),
  (⟨"WordMint", "alias", "(II)I"⟩, prog_1_method_12_code, 4, (some .int), 0, 0, 0, 0),
  (⟨"WordMint", "give", "(II)Z"⟩, prog_1_method_13_code, 3, (some .boolean), 0, 0, 0, 0),
  (⟨"WordMint", "word", "(I)J"⟩, prog_1_method_14_code, 5, (some .long), 1, 23, 0, 0),
  (⟨"WordMint", "reads", "(JI)I"⟩, prog_1_method_15_code, 7, (some .int), 4, 96, 0, 0),
  (⟨"WordMint", "got", "(I)I"⟩, prog_1_method_16_code, 2, (some .int), 0, 0, 0, 0),
  (⟨"WordMint", "tests", "(I)I"⟩, prog_1_method_17_code, 2, (some .int), 5, 122, 0, 0),
  (⟨"WordMint", "count", "(I)I"⟩, prog_1_method_18_code, 3, (some .int), 1, 23, 0, 0),
  (⟨"WordMintModel", "<init>", "()V"⟩, prog_13_method_1_code, 1, none, 1, 20, 39, 113096),
  (⟨"WordMintModel", "feed", "(IIIII)I"⟩, prog_13_method_2_code, 6, (some .int), 1, 22, 0, 0),
  (⟨"WordMintModel", "byteRow", "(I)V"⟩, prog_13_method_3_code, 3, none, 0, 0, 0, 0),
  (⟨"WordMintModel", "back", "(I)I"⟩, prog_13_method_4_code, 2, (some .int), 0, 0, 0, 0),
  (⟨"WordMintModel", "seen", "(I)I"⟩, prog_13_method_5_code, 2, (some .int), 0, 0, 0, 0),
  (⟨"WordMintModel", "isDigit", "(I)Z"⟩, prog_13_method_6_code, 2, (some .boolean), 1, 21, 0, 0),
  (⟨"WordMintModel", "isLetter", "(I)Z"⟩, prog_13_method_7_code, 2, (some .boolean), 1, 21, 0, 0),
  (⟨"WordMintModel", "keyword", "(JZ)I"⟩, prog_13_method_8_code, 3, (some .int), 0, 0, 0, 0),
  (⟨"WordMintModel", "token", "()V"⟩, prog_13_method_9_code, 5, none, 2, 42, 0, 0),
  (⟨"WordMintModel", "stop", "(II)Z"⟩, prog_13_method_10_code, 3, (some .boolean), 0, 0, 0, 0),
  (⟨"WordMintModel", "fault", "(II)V"⟩, prog_13_method_11_code, 3, none, 0, 0, 0, 0),
  (⟨"WordMintModel", "pass", "()Z"⟩, prog_13_method_12_code, 1, (some .boolean), 3, 66, 0, 0),
  (⟨"WordMintModel", "isSign", "(I)Z"⟩, prog_13_method_13_code, 2, (some .boolean), 0, 0, 0, 0),
  (⟨"WordMintModel", "signs", "(I)Z"⟩, prog_13_method_14_code, 2, (some .boolean), 4, 86, 0, 0),
  (⟨"WordMintModel", "is", "(I)Z"⟩, prog_13_method_15_code, 2, (some .boolean), 1, 22, 0, 0),
  (⟨"WordMintModel", "fieldOf", "(J)I"⟩, prog_13_method_16_code, 4, (some .int), 0, 0, 0, 0),
  (⟨"WordMintModel", "orderOf", "(J)I"⟩, prog_13_method_17_code, 4, (some .int), 0, 0, 0, 0),
  (⟨"WordMintModel", "isAlias", "(J)Z"⟩, prog_13_method_18_code, 4, (some .boolean), 0, 0, 0, 0),
  (⟨"WordMintModel", "fieldTold", "()Z"⟩, prog_13_method_19_code, 2, (some .boolean), 5, 107, 0, 0),
  (⟨"WordMintModel", "orderTold", "(I)Z"⟩, prog_13_method_20_code, 7, (some .boolean), 5, 107, 0, 0),
  (⟨"WordMintModel", "hasField", "(II)I"⟩, prog_13_method_21_code, 4, (some .int), 0, 0, 0, 0),
  (⟨"WordMintModel", "aliasTold", "()Z"⟩, prog_13_method_22_code, 4, (some .boolean), 5, 107, 0, 0),
  (⟨"WordMintModel", "aliasField", "(II)I"⟩, prog_13_method_23_code, 5, (some .int), 1, 23, 0, 0),
  (⟨"WordMintModel", "roomTold", "()Z"⟩, prog_13_method_24_code, 2, (some .boolean), 5, 107, 0, 0),
  (⟨"WordMintModel", "text", "()Z"⟩, prog_13_method_25_code, 2, (some .boolean), 6, 133, 0, 0),
  (⟨"WordMintModel", "begins", "()V"⟩, prog_13_method_26_code, 1, none, 3, 66, 0, 0),
  (⟨"WordMintModel", "read", "()I"⟩, prog_13_method_27_code, 2, (some .int), 7, 154, 0, 0),
  (⟨"WordMintModel", "takeOver", "()V"⟩, prog_13_method_28_code, 2, none, 0, 0, 0, 0),
  (⟨"WordMintModel", "place", "()I"⟩, prog_13_method_29_code, 1, (some .int), 0, 0, 0, 0),
  (⟨"WordMintModel", "bits", "(I)I"⟩, prog_13_method_30_code, 4, (some .int), 0, 0, 0, 0),
  (⟨"WordMintModel", "roomLeft", "(I)I"⟩, prog_13_method_31_code, 5, (some .int), 1, 23, 0, 0),
  (⟨"WordMintModel", "choose", "(II)V"⟩, prog_13_method_32_code, 6, none, 1, 23, 0, 0),
  (⟨"WordMintModel", "lay", "(I)I"⟩, prog_13_method_33_code, 8, (some .int), 4, 102, 0, 0),
  (⟨"WordMintModel", "fresh", "(I)I"⟩, prog_13_method_34_code, 6, (some .int), 0, 0, 0, 0),
  (⟨"WordMintModel", "nextRow", "(I)Z"⟩, prog_13_method_35_code, 6, (some .boolean), 1, 23, 0, 0),
  (⟨"WordMintModel", "swap", "(II)V"⟩, prog_13_method_36_code, 4, none, 0, 0, 0, 0),
  (⟨"WordMintModel", "stand", "(I)V"⟩, prog_13_method_37_code, 8, none, 2, 48, 0, 0),
  (⟨"WordMintModel", "add", "()I"⟩, prog_13_method_38_code, 6, (some .int), 6, 133, 0, 0),
  (⟨"WordMintModel", "come", "(II)V"⟩, prog_13_method_39_code, 3, none, 4, 102, 0, 0),
  (⟨"WordMintModel", "isOrder", "(I)Z"⟩, prog_13_method_40_code, 2, (some .boolean), 0, 0, 0, 0),
  (⟨"WordMintModel", "order", "(II)I"⟩, prog_13_method_41_code, 3, (some .int), 1, 23, 0, 0),
  (⟨"WordMintModel", "field", "(II)I"⟩, prog_13_method_42_code, 5, (some .int), 1, 23, 0, 0),
  (⟨"WordMintModel", "room", "(II)I"⟩, prog_13_method_43_code, 3, (some .int), 0, 0, 0, 0),
  (⟨"WordMintModel", "alias", "(II)I"⟩, prog_13_method_44_code, 3, (some .int), 0, 0, 0, 0),
  (⟨"WordMintModel", "give", "(II)Z"⟩, prog_13_method_45_code, 3, (some .boolean), 0, 0, 0, 0),
  (⟨"WordMintModel", "word", "(I)J"⟩, prog_13_method_46_code, 5, (some .long), 1, 23, 0, 0),
  (⟨"WordMintModel", "reads", "(JI)I"⟩, prog_13_method_47_code, 9, (some .int), 3, 70, 0, 0),
  (⟨"WordMintModel", "take", "(IJ)V"⟩, prog_13_method_48_code, 5, none, 2, 46, 0, 0),
  (⟨"WordMintModel", "isHeld", "(II)Z"⟩, prog_13_method_49_code, 4, (some .boolean), 1, 23, 0, 0),
  (⟨"WordMintModel", "got", "(I)I"⟩, prog_13_method_50_code, 2, (some .int), 0, 0, 0, 0),
  (⟨"WordMintModel", "bitOf", "(II)I"⟩, prog_13_method_51_code, 3, (some .int), 0, 0, 0, 0),
  (⟨"WordMintModel", "put", "(IJII)V"⟩, prog_13_method_52_code, 6, none, 0, 0, 0, 0),
  (⟨"WordMintModel", "pieces", "()I"⟩, prog_13_method_53_code, 4, (some .int), 1, 25, 0, 0),
  (⟨"WordMintModel", "isEnd", "(II)Z"⟩, prog_13_method_54_code, 4, (some .boolean), 0, 0, 0, 0),
  (⟨"WordMintModel", "asked", "(II)I"⟩, prog_13_method_55_code, 10, (some .int), 1, 22, 0, 0),
  (⟨"WordMintModel", "exchange", "(II)V"⟩, prog_13_method_56_code, 7, none, 1, 25, 0, 0),
  (⟨"WordMintModel", "part", "(III)I"⟩, prog_13_method_57_code, 6, (some .int), 2, 51, 0, 0),
  (⟨"WordMintModel", "decode", "()V"⟩, prog_13_method_58_code, 7, none, 3, 76, 0, 0),
  (⟨"WordMintModel", "tests", "(I)I"⟩, prog_13_method_59_code, 2, (some .int), 0, 0, 0, 0),
  (⟨"WordMintModel", "count", "(I)I"⟩, prog_13_method_60_code, 4, (some .int), 0, 0, 0, 0),
  (⟨"java/lang/Integer", "bitCount", "(I)I"⟩, prog_14_method_49_code, 1, (some .int), 0, 0, 0, 0),
  (⟨"java/lang/Math", "max", "(II)I"⟩, prog_15_method_65_code, 2, (some .int), 0, 0, 0, 0),
  (⟨"java/lang/Math", "min", "(II)I"⟩, prog_15_method_69_code, 2, (some .int), 0, 0, 0, 0),
  (⟨"java/lang/String", "length", "()I"⟩, prog_16_method_54_code, 1, (some .int), 1, 20, 0, 0),
  (⟨"java/lang/String", "charAt", "(I)C"⟩, prog_16_method_56_code, 2, (some .char), 4, 85, 0, 0),
  (⟨"java/lang/String", "coder", "()B"⟩, prog_16_method_152_code, 1, (some .byte), 0, 0, 0, 0),
  (⟨"java/lang/String", "isLatin1", "()Z"⟩, prog_16_method_154_code, 1, (some .boolean), 0, 0, 0, 0),
  (⟨"java/lang/String", "checkIndex", "(II)V"⟩, prog_16_method_155_code, 2, none, 1, 22, 0, 0),
  (⟨"java/lang/StringLatin1", "charAt", "([BI)C"⟩, prog_17_method_2_code, 2, (some .char), 2, 43, 0, 0),
  (⟨"java/lang/StringUTF16", "getChar", "([BI)C"⟩, prog_18_method_5_code, 2, (some .char), 1, 20, 0, 0),
  (⟨"java/lang/StringUTF16", "length", "([B)I"⟩, prog_18_method_6_code, 1, (some .int), 0, 0, 0, 0),
  (⟨"java/lang/StringUTF16", "charAt", "([BI)C"⟩, prog_18_method_83_code, 2, (some .char), 3, 64, 0, 0),
  (⟨"java/lang/StringUTF16", "checkIndex", "(I[B)V"⟩, prog_18_method_91_code, 2, none, 2, 43, 0, 0),
  (⟨"jdk/internal/util/Preconditions", "checkIndex", "(IILjava/util/function/BiFunction;)I"⟩, prog_19_method_11_code, 3, (some .int), 0, 0, 0, 0),
  (⟨"WordMintLaw", "law", "([I)Z"⟩, code, 4, (some .boolean), 13, 492, 600000, 7302250)]
def mRow (mi : Nat) : mRowT := mTab.getD mi (⟨"", "", ""⟩, ⟨#[]⟩, 0, none, 0, 0, 0, 0)
def mY (mi : Nat) : MethodName := (mRow mi).1
def mB (mi : Nat) : ByteArray := (mRow mi).2.1
def mN (mi : Nat) : Nat := (mRow mi).2.2.1
def mR (mi : Nat) : Option FieldType := (mRow mi).2.2.2.1
def mFr (mi : Nat) : Nat := (mRow mi).2.2.2.2.1
def mLo (mi : Nat) : Nat := (mRow mi).2.2.2.2.2.1
def mCe (mi : Nat) : Nat := (mRow mi).2.2.2.2.2.2.1
def mSl (mi : Nat) : Nat := (mRow mi).2.2.2.2.2.2.2
def mCw (mi : Nat) : Cond := .code (mY mi) (mB mi) (mN mi) (mR mi)
def mCwP : List Nat := [252, 678, 692, 689, 681, 686, 696, 700, 340, 765, 769, 773, 777, 804, 781, 785, 789, 797, 793, 808, 812, 265, 705, 749, 737, 884, 888, 854, 710, 714, 753, 47, 461, 579, 622, 603, 611, 465, 591, 569, 573, 583, 587, 385, 859, 863, 867, 271, 718, 725, 729, 733, 53, 469, 486, 560, 472, 499, 565, 479, 482, 492, 489, 496, 31, 445, 476, 504, 117, 595, 745, 599, 607, 626, 642, 630, 650, 655, 658, 666, 130, 457, 615, 638, 634, 646, 820, 662, 618, 23, 441, 449, 453, 670, 674, 741, 757, 761, 816, 831, 835, 839, 844, 850, 872, 876, 880, 893, 1072, 1076, 1080, 1096, 1104, 1100, 1107, 1092, 1119, 1139, 1127, 1147, 1143, 1131, 1135, 1155, 1159, 1123, 1151, 1163, 1167, 1171, 1175, 1115, 1088, 1084, 1179, 1183, 1195, 1191, 1199, 1187, 1207, 1211, 1215, 1203, 1251, 1255, 1263, 1259, 1267, 1271, 1275, 1279, 1284, 1289, 1293, 1297, 1301, 1239, 1227, 1223, 1231, 1235, 1247, 1243, 1219, 1305, 1309, 824, 800, 721, 508, 519, 512, 523, 529, 526, 547, 543, 537, 540, 534]
set_option maxRecDepth 100000 in
theorem mCw_ok : (mTab.take 181).map (fun q => Cond.code q.1 q.2.1 q.2.2.1 q.2.2.2.1) = mCwP.filterMap (fun i => tables_1[i]?) := by rfl
