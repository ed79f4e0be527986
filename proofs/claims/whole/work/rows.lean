section
-- ===== PART A: goes FIRST, ahead of the names: the tables' words, and 'selects' of the private methods out of them =====
/-- a private method of a class that the tables say can be made, by its rows of tables_1 -/
def lw_okq (q : MethodName × Nat) : Prop := (q.1.cls ≠ "java/lang/invoke/MethodHandle" ∧ q.1.cls ≠ "java/lang/invoke/VarHandle") ∧ Cond.instantiable q.1.cls q.2 ∈ tables_1 ∧ Cond.privateMethod q.1 ∈ tables_1 ∧ Cond.instanceMethod q.1 ∈ tables_1
theorem lw_p0 : lw_okq (⟨"Icehighway", "kilosMissing", "(I)I"⟩, 9) := ⟨⟨by decide +kernel, by decide +kernel⟩, List.mem_of_getElem? (i := 22) (by decide +kernel), List.mem_of_getElem? (i := 94) (by decide +kernel), List.mem_of_getElem? (i := 95) (by decide +kernel)⟩
theorem lw_p1 : lw_okq (⟨"java/lang/Throwable", "fillInStackTrace", "(I)Ljava/lang/Throwable;"⟩, 6) := ⟨⟨by decide +kernel, by decide +kernel⟩, List.mem_of_getElem? (i := 151) (by decide +kernel), List.mem_of_getElem? (i := 149) (by decide +kernel), List.mem_of_getElem? (i := 150) (by decide +kernel)⟩
theorem lw_p2 : lw_okq (⟨"java/util/ArrayList", "add", "(Ljava/lang/Object;[Ljava/lang/Object;I)V"⟩, 3) := ⟨⟨by decide +kernel, by decide +kernel⟩, List.mem_of_getElem? (i := 30) (by decide +kernel), List.mem_of_getElem? (i := 293) (by decide +kernel), List.mem_of_getElem? (i := 294) (by decide +kernel)⟩
theorem lw_p3 : lw_okq (⟨"java/util/ArrayList", "grow", "()[Ljava/lang/Object;"⟩, 3) := ⟨⟨by decide +kernel, by decide +kernel⟩, List.mem_of_getElem? (i := 30) (by decide +kernel), List.mem_of_getElem? (i := 297) (by decide +kernel), List.mem_of_getElem? (i := 298) (by decide +kernel)⟩
theorem lw_p4 : lw_okq (⟨"java/util/ArrayList", "grow", "(I)[Ljava/lang/Object;"⟩, 3) := ⟨⟨by decide +kernel, by decide +kernel⟩, List.mem_of_getElem? (i := 30) (by decide +kernel), List.mem_of_getElem? (i := 301) (by decide +kernel), List.mem_of_getElem? (i := 302) (by decide +kernel)⟩
theorem lw_p5 : lw_okq (⟨"Icehighway", "pieceNumbered", "(I)LIcehighway$Piece;"⟩, 9) := ⟨⟨by decide +kernel, by decide +kernel⟩, List.mem_of_getElem? (i := 22) (by decide +kernel), List.mem_of_getElem? (i := 384) (by decide +kernel), List.mem_of_getElem? (i := 385) (by decide +kernel)⟩
theorem lw_p6 : lw_okq (⟨"Icehighway", "vehicleNumbered", "(I)LIcehighway$Vehicle;"⟩, 9) := ⟨⟨by decide +kernel, by decide +kernel⟩, List.mem_of_getElem? (i := 22) (by decide +kernel), List.mem_of_getElem? (i := 509) (by decide +kernel), List.mem_of_getElem? (i := 510) (by decide +kernel)⟩
theorem lw_p7 : lw_okq (⟨"Icehighway", "stopAtEnd", "(LIcehighway$Vehicle;)V"⟩, 9) := ⟨⟨by decide +kernel, by decide +kernel⟩, List.mem_of_getElem? (i := 22) (by decide +kernel), List.mem_of_getElem? (i := 559) (by decide +kernel), List.mem_of_getElem? (i := 560) (by decide +kernel)⟩
theorem lw_p8 : lw_okq (⟨"Icehighway", "unload", "(LIcehighway$Vehicle;)V"⟩, 9) := ⟨⟨by decide +kernel, by decide +kernel⟩, List.mem_of_getElem? (i := 22) (by decide +kernel), List.mem_of_getElem? (i := 563) (by decide +kernel), List.mem_of_getElem? (i := 564) (by decide +kernel)⟩
theorem lw_p9 : lw_okq (⟨"Icehighway", "passOneMinute", "()V"⟩, 9) := ⟨⟨by decide +kernel, by decide +kernel⟩, List.mem_of_getElem? (i := 22) (by decide +kernel), List.mem_of_getElem? (i := 586) (by decide +kernel), List.mem_of_getElem? (i := 587) (by decide +kernel)⟩
theorem lw_p10 : lw_okq (⟨"Icehighway", "endDay", "()V"⟩, 9) := ⟨⟨by decide +kernel, by decide +kernel⟩, List.mem_of_getElem? (i := 22) (by decide +kernel), List.mem_of_getElem? (i := 590) (by decide +kernel), List.mem_of_getElem? (i := 591) (by decide +kernel)⟩
theorem lw_p11 : lw_okq (⟨"Icehighway$Piece", "growth", "(I)I"⟩, 16) := ⟨⟨by decide +kernel, by decide +kernel⟩, List.mem_of_getElem? (i := 216) (by decide +kernel), List.mem_of_getElem? (i := 599) (by decide +kernel), List.mem_of_getElem? (i := 600) (by decide +kernel)⟩
theorem lw_p12 : lw_okq (⟨"Icehighway", "moveOn", "(LIcehighway$Vehicle;)V"⟩, 9) := ⟨⟨by decide +kernel, by decide +kernel⟩, List.mem_of_getElem? (i := 22) (by decide +kernel), List.mem_of_getElem? (i := 608) (by decide +kernel), List.mem_of_getElem? (i := 609) (by decide +kernel)⟩
theorem lw_p13 : lw_okq (⟨"Icehighway", "leave", "(LIcehighway$Vehicle;)V"⟩, 9) := ⟨⟨by decide +kernel, by decide +kernel⟩, List.mem_of_getElem? (i := 22) (by decide +kernel), List.mem_of_getElem? (i := 612) (by decide +kernel), List.mem_of_getElem? (i := 613) (by decide +kernel)⟩
theorem lw_p14 : lw_okq (⟨"Icehighway", "whatIsAgainst", "(LIcehighway$Vehicle;)I"⟩, 9) := ⟨⟨by decide +kernel, by decide +kernel⟩, List.mem_of_getElem? (i := 22) (by decide +kernel), List.mem_of_getElem? (i := 622) (by decide +kernel), List.mem_of_getElem? (i := 623) (by decide +kernel)⟩
theorem lw_p15 : lw_okq (⟨"Icehighway", "pieceAhead", "(LIcehighway$Vehicle;)LIcehighway$Piece;"⟩, 9) := ⟨⟨by decide +kernel, by decide +kernel⟩, List.mem_of_getElem? (i := 22) (by decide +kernel), List.mem_of_getElem? (i := 626) (by decide +kernel), List.mem_of_getElem? (i := 627) (by decide +kernel)⟩
def lw_privs_1 : List (MethodName × Nat) := [(⟨"Icehighway", "kilosMissing", "(I)I"⟩, 9), (⟨"java/lang/Throwable", "fillInStackTrace", "(I)Ljava/lang/Throwable;"⟩, 6), (⟨"java/util/ArrayList", "add", "(Ljava/lang/Object;[Ljava/lang/Object;I)V"⟩, 3), (⟨"java/util/ArrayList", "grow", "()[Ljava/lang/Object;"⟩, 3), (⟨"java/util/ArrayList", "grow", "(I)[Ljava/lang/Object;"⟩, 3), (⟨"Icehighway", "pieceNumbered", "(I)LIcehighway$Piece;"⟩, 9), (⟨"Icehighway", "vehicleNumbered", "(I)LIcehighway$Vehicle;"⟩, 9), (⟨"Icehighway", "stopAtEnd", "(LIcehighway$Vehicle;)V"⟩, 9), (⟨"Icehighway", "unload", "(LIcehighway$Vehicle;)V"⟩, 9), (⟨"Icehighway", "passOneMinute", "()V"⟩, 9), (⟨"Icehighway", "endDay", "()V"⟩, 9), (⟨"Icehighway$Piece", "growth", "(I)I"⟩, 16), (⟨"Icehighway", "moveOn", "(LIcehighway$Vehicle;)V"⟩, 9), (⟨"Icehighway", "leave", "(LIcehighway$Vehicle;)V"⟩, 9), (⟨"Icehighway", "whatIsAgainst", "(LIcehighway$Vehicle;)I"⟩, 9), (⟨"Icehighway", "pieceAhead", "(LIcehighway$Vehicle;)LIcehighway$Piece;"⟩, 9)]
theorem lw_r1 : ∀ q ∈ lw_privs_1, lw_okq q := List.forall_mem_cons.mpr ⟨lw_p0, List.forall_mem_cons.mpr ⟨lw_p1, List.forall_mem_cons.mpr ⟨lw_p2, List.forall_mem_cons.mpr ⟨lw_p3, List.forall_mem_cons.mpr ⟨lw_p4, List.forall_mem_cons.mpr ⟨lw_p5, List.forall_mem_cons.mpr ⟨lw_p6, List.forall_mem_cons.mpr ⟨lw_p7, List.forall_mem_cons.mpr ⟨lw_p8, List.forall_mem_cons.mpr ⟨lw_p9, List.forall_mem_cons.mpr ⟨lw_p10, List.forall_mem_cons.mpr ⟨lw_p11, List.forall_mem_cons.mpr ⟨lw_p12, List.forall_mem_cons.mpr ⟨lw_p13, List.forall_mem_cons.mpr ⟨lw_p14, List.forall_mem_cons.mpr ⟨lw_p15, fun _ h => absurd h List.not_mem_nil⟩⟩⟩⟩⟩⟩⟩⟩⟩⟩⟩⟩⟩⟩⟩⟩
theorem lw_p16 : lw_okq (⟨"Icehighway", "comeOnto", "(LIcehighway$Vehicle;)V"⟩, 9) := ⟨⟨by decide +kernel, by decide +kernel⟩, List.mem_of_getElem? (i := 22) (by decide +kernel), List.mem_of_getElem? (i := 650) (by decide +kernel), List.mem_of_getElem? (i := 651) (by decide +kernel)⟩
theorem lw_p17 : lw_okq (⟨"Icehighway", "kilosInVehicles", "(IZ)I"⟩, 9) := ⟨⟨by decide +kernel, by decide +kernel⟩, List.mem_of_getElem? (i := 22) (by decide +kernel), List.mem_of_getElem? (i := 741) (by decide +kernel), List.mem_of_getElem? (i := 742) (by decide +kernel)⟩
theorem lw_p18 : lw_okq (⟨"IcehighwayModel", "fails", "(I)Z"⟩, 30) := ⟨⟨by decide +kernel, by decide +kernel⟩, List.mem_of_getElem? (i := 752) (by decide +kernel), List.mem_of_getElem? (i := 862) (by decide +kernel), List.mem_of_getElem? (i := 863) (by decide +kernel)⟩
theorem lw_p19 : lw_okq (⟨"IcehighwayModel", "isPiece", "(I)Z"⟩, 30) := ⟨⟨by decide +kernel, by decide +kernel⟩, List.mem_of_getElem? (i := 752) (by decide +kernel), List.mem_of_getElem? (i := 879) (by decide +kernel), List.mem_of_getElem? (i := 880) (by decide +kernel)⟩
theorem lw_p20 : lw_okq (⟨"IcehighwayModel", "isWater", "(I)Z"⟩, 30) := ⟨⟨by decide +kernel, by decide +kernel⟩, List.mem_of_getElem? (i := 752) (by decide +kernel), List.mem_of_getElem? (i := 887) (by decide +kernel), List.mem_of_getElem? (i := 888) (by decide +kernel)⟩
theorem lw_p21 : lw_okq (⟨"IcehighwayModel", "thick", "(I)D"⟩, 30) := ⟨⟨by decide +kernel, by decide +kernel⟩, List.mem_of_getElem? (i := 752) (by decide +kernel), List.mem_of_getElem? (i := 895) (by decide +kernel), List.mem_of_getElem? (i := 896) (by decide +kernel)⟩
theorem lw_p22 : lw_okq (⟨"IcehighwayModel", "isVehicle", "(I)Z"⟩, 30) := ⟨⟨by decide +kernel, by decide +kernel⟩, List.mem_of_getElem? (i := 752) (by decide +kernel), List.mem_of_getElem? (i := 922) (by decide +kernel), List.mem_of_getElem? (i := 923) (by decide +kernel)⟩
theorem lw_p23 : lw_okq (⟨"IcehighwayModel", "weight", "(I)I"⟩, 30) := ⟨⟨by decide +kernel, by decide +kernel⟩, List.mem_of_getElem? (i := 752) (by decide +kernel), List.mem_of_getElem? (i := 929) (by decide +kernel), List.mem_of_getElem? (i := 930) (by decide +kernel)⟩
theorem lw_p24 : lw_okq (⟨"IcehighwayModel", "isThere", "(I)Z"⟩, 30) := ⟨⟨by decide +kernel, by decide +kernel⟩, List.mem_of_getElem? (i := 752) (by decide +kernel), List.mem_of_getElem? (i := 941) (by decide +kernel), List.mem_of_getElem? (i := 942) (by decide +kernel)⟩
theorem lw_p25 : lw_okq (⟨"IcehighwayModel", "arrives", "(I)V"⟩, 30) := ⟨⟨by decide +kernel, by decide +kernel⟩, List.mem_of_getElem? (i := 752) (by decide +kernel), List.mem_of_getElem? (i := 945) (by decide +kernel), List.mem_of_getElem? (i := 946) (by decide +kernel)⟩
theorem lw_p26 : lw_okq (⟨"IcehighwayModel", "unloads", "(IZ)V"⟩, 30) := ⟨⟨by decide +kernel, by decide +kernel⟩, List.mem_of_getElem? (i := 752) (by decide +kernel), List.mem_of_getElem? (i := 949) (by decide +kernel), List.mem_of_getElem? (i := 950) (by decide +kernel)⟩
theorem lw_p27 : lw_okq (⟨"IcehighwayModel", "passes", "()V"⟩, 30) := ⟨⟨by decide +kernel, by decide +kernel⟩, List.mem_of_getElem? (i := 752) (by decide +kernel), List.mem_of_getElem? (i := 964) (by decide +kernel), List.mem_of_getElem? (i := 965) (by decide +kernel)⟩
theorem lw_p28 : lw_okq (⟨"IcehighwayModel", "ends", "()V"⟩, 30) := ⟨⟨by decide +kernel, by decide +kernel⟩, List.mem_of_getElem? (i := 752) (by decide +kernel), List.mem_of_getElem? (i := 968) (by decide +kernel), List.mem_of_getElem? (i := 969) (by decide +kernel)⟩
theorem lw_p29 : lw_okq (⟨"IcehighwayModel", "freezes", "(I)V"⟩, 30) := ⟨⟨by decide +kernel, by decide +kernel⟩, List.mem_of_getElem? (i := 752) (by decide +kernel), List.mem_of_getElem? (i := 972) (by decide +kernel), List.mem_of_getElem? (i := 973) (by decide +kernel)⟩
theorem lw_p30 : lw_okq (⟨"IcehighwayModel", "thaws", "(I)V"⟩, 30) := ⟨⟨by decide +kernel, by decide +kernel⟩, List.mem_of_getElem? (i := 752) (by decide +kernel), List.mem_of_getElem? (i := 976) (by decide +kernel), List.mem_of_getElem? (i := 977) (by decide +kernel)⟩
theorem lw_p31 : lw_okq (⟨"IcehighwayModel", "leaves", "(I)V"⟩, 30) := ⟨⟨by decide +kernel, by decide +kernel⟩, List.mem_of_getElem? (i := 752) (by decide +kernel), List.mem_of_getElem? (i := 980) (by decide +kernel), List.mem_of_getElem? (i := 981) (by decide +kernel)⟩
def lw_privs_2 : List (MethodName × Nat) := [(⟨"Icehighway", "comeOnto", "(LIcehighway$Vehicle;)V"⟩, 9), (⟨"Icehighway", "kilosInVehicles", "(IZ)I"⟩, 9), (⟨"IcehighwayModel", "fails", "(I)Z"⟩, 30), (⟨"IcehighwayModel", "isPiece", "(I)Z"⟩, 30), (⟨"IcehighwayModel", "isWater", "(I)Z"⟩, 30), (⟨"IcehighwayModel", "thick", "(I)D"⟩, 30), (⟨"IcehighwayModel", "isVehicle", "(I)Z"⟩, 30), (⟨"IcehighwayModel", "weight", "(I)I"⟩, 30), (⟨"IcehighwayModel", "isThere", "(I)Z"⟩, 30), (⟨"IcehighwayModel", "arrives", "(I)V"⟩, 30), (⟨"IcehighwayModel", "unloads", "(IZ)V"⟩, 30), (⟨"IcehighwayModel", "passes", "()V"⟩, 30), (⟨"IcehighwayModel", "ends", "()V"⟩, 30), (⟨"IcehighwayModel", "freezes", "(I)V"⟩, 30), (⟨"IcehighwayModel", "thaws", "(I)V"⟩, 30), (⟨"IcehighwayModel", "leaves", "(I)V"⟩, 30)]
theorem lw_r2 : ∀ q ∈ lw_privs_2, lw_okq q := List.forall_mem_cons.mpr ⟨lw_p16, List.forall_mem_cons.mpr ⟨lw_p17, List.forall_mem_cons.mpr ⟨lw_p18, List.forall_mem_cons.mpr ⟨lw_p19, List.forall_mem_cons.mpr ⟨lw_p20, List.forall_mem_cons.mpr ⟨lw_p21, List.forall_mem_cons.mpr ⟨lw_p22, List.forall_mem_cons.mpr ⟨lw_p23, List.forall_mem_cons.mpr ⟨lw_p24, List.forall_mem_cons.mpr ⟨lw_p25, List.forall_mem_cons.mpr ⟨lw_p26, List.forall_mem_cons.mpr ⟨lw_p27, List.forall_mem_cons.mpr ⟨lw_p28, List.forall_mem_cons.mpr ⟨lw_p29, List.forall_mem_cons.mpr ⟨lw_p30, List.forall_mem_cons.mpr ⟨lw_p31, fun _ h => absurd h List.not_mem_nil⟩⟩⟩⟩⟩⟩⟩⟩⟩⟩⟩⟩⟩⟩⟩⟩
theorem lw_p32 : lw_okq (⟨"IcehighwayModel", "against", "(I)I"⟩, 30) := ⟨⟨by decide +kernel, by decide +kernel⟩, List.mem_of_getElem? (i := 752) (by decide +kernel), List.mem_of_getElem? (i := 984) (by decide +kernel), List.mem_of_getElem? (i := 985) (by decide +kernel)⟩
theorem lw_p33 : lw_okq (⟨"IcehighwayModel", "nextPiece", "(I)I"⟩, 30) := ⟨⟨by decide +kernel, by decide +kernel⟩, List.mem_of_getElem? (i := 752) (by decide +kernel), List.mem_of_getElem? (i := 988) (by decide +kernel), List.mem_of_getElem? (i := 989) (by decide +kernel)⟩
theorem lw_p34 : lw_okq (⟨"IcehighwayModel", "isMet", "(II)Z"⟩, 30) := ⟨⟨by decide +kernel, by decide +kernel⟩, List.mem_of_getElem? (i := 752) (by decide +kernel), List.mem_of_getElem? (i := 992) (by decide +kernel), List.mem_of_getElem? (i := 993) (by decide +kernel)⟩
theorem lw_p35 : lw_okq (⟨"IcehighwayModel", "weights", "(I)I"⟩, 30) := ⟨⟨by decide +kernel, by decide +kernel⟩, List.mem_of_getElem? (i := 752) (by decide +kernel), List.mem_of_getElem? (i := 996) (by decide +kernel), List.mem_of_getElem? (i := 997) (by decide +kernel)⟩
theorem lw_p36 : lw_okq (⟨"IcehighwayModel", "bearsBy", "(ID)I"⟩, 30) := ⟨⟨by decide +kernel, by decide +kernel⟩, List.mem_of_getElem? (i := 752) (by decide +kernel), List.mem_of_getElem? (i := 1000) (by decide +kernel), List.mem_of_getElem? (i := 1001) (by decide +kernel)⟩
theorem lw_p37 : lw_okq (⟨"IcehighwayModel", "comes", "(I)V"⟩, 30) := ⟨⟨by decide +kernel, by decide +kernel⟩, List.mem_of_getElem? (i := 752) (by decide +kernel), List.mem_of_getElem? (i := 1006) (by decide +kernel), List.mem_of_getElem? (i := 1007) (by decide +kernel)⟩
theorem lw_p38 : lw_okq (⟨"IcehighwayModel", "minutesOn", "(II)I"⟩, 30) := ⟨⟨by decide +kernel, by decide +kernel⟩, List.mem_of_getElem? (i := 752) (by decide +kernel), List.mem_of_getElem? (i := 1010) (by decide +kernel), List.mem_of_getElem? (i := 1011) (by decide +kernel)⟩
theorem lw_p39 : lw_okq (⟨"IcehighwayModel", "speedOn", "(II)I"⟩, 30) := ⟨⟨by decide +kernel, by decide +kernel⟩, List.mem_of_getElem? (i := 752) (by decide +kernel), List.mem_of_getElem? (i := 1014) (by decide +kernel), List.mem_of_getElem? (i := 1015) (by decide +kernel)⟩
theorem lw_p40 : lw_okq (⟨"IcehighwayModel", "many", "(I)I"⟩, 30) := ⟨⟨by decide +kernel, by decide +kernel⟩, List.mem_of_getElem? (i := 752) (by decide +kernel), List.mem_of_getElem? (i := 1028) (by decide +kernel), List.mem_of_getElem? (i := 1029) (by decide +kernel)⟩
theorem lw_p41 : lw_okq (⟨"IcehighwayModel", "missing", "(I)I"⟩, 30) := ⟨⟨by decide +kernel, by decide +kernel⟩, List.mem_of_getElem? (i := 752) (by decide +kernel), List.mem_of_getElem? (i := 1065) (by decide +kernel), List.mem_of_getElem? (i := 1066) (by decide +kernel)⟩
theorem lw_p42 : lw_okq (⟨"IcehighwayModel", "carried", "(IZ)I"⟩, 30) := ⟨⟨by decide +kernel, by decide +kernel⟩, List.mem_of_getElem? (i := 752) (by decide +kernel), List.mem_of_getElem? (i := 1069) (by decide +kernel), List.mem_of_getElem? (i := 1070) (by decide +kernel)⟩
def lw_privs_3 : List (MethodName × Nat) := [(⟨"IcehighwayModel", "against", "(I)I"⟩, 30), (⟨"IcehighwayModel", "nextPiece", "(I)I"⟩, 30), (⟨"IcehighwayModel", "isMet", "(II)Z"⟩, 30), (⟨"IcehighwayModel", "weights", "(I)I"⟩, 30), (⟨"IcehighwayModel", "bearsBy", "(ID)I"⟩, 30), (⟨"IcehighwayModel", "comes", "(I)V"⟩, 30), (⟨"IcehighwayModel", "minutesOn", "(II)I"⟩, 30), (⟨"IcehighwayModel", "speedOn", "(II)I"⟩, 30), (⟨"IcehighwayModel", "many", "(I)I"⟩, 30), (⟨"IcehighwayModel", "missing", "(I)I"⟩, 30), (⟨"IcehighwayModel", "carried", "(IZ)I"⟩, 30)]
theorem lw_r3 : ∀ q ∈ lw_privs_3, lw_okq q := List.forall_mem_cons.mpr ⟨lw_p32, List.forall_mem_cons.mpr ⟨lw_p33, List.forall_mem_cons.mpr ⟨lw_p34, List.forall_mem_cons.mpr ⟨lw_p35, List.forall_mem_cons.mpr ⟨lw_p36, List.forall_mem_cons.mpr ⟨lw_p37, List.forall_mem_cons.mpr ⟨lw_p38, List.forall_mem_cons.mpr ⟨lw_p39, List.forall_mem_cons.mpr ⟨lw_p40, List.forall_mem_cons.mpr ⟨lw_p41, List.forall_mem_cons.mpr ⟨lw_p42, fun _ h => absurd h List.not_mem_nil⟩⟩⟩⟩⟩⟩⟩⟩⟩⟩⟩
def lw_privs : List (MethodName × Nat) := lw_privs_1 ++ (lw_privs_2 ++ (lw_privs_3))
def lw_tbl : List Cond := k2_sels lw_privs ++ tables_1
theorem lw_privs_ok : ∀ q ∈ lw_privs, lw_okq q := by
  show ∀ q ∈ lw_privs_1 ++ (lw_privs_2 ++ (lw_privs_3)), lw_okq q
  exact List.forall_mem_append.mpr ⟨lw_r1, List.forall_mem_append.mpr ⟨lw_r2, lw_r3⟩⟩
/-- the streams that the claim lets the run draw from -/
abbrev lw_cs : List Choice := [Jvm.Choice.named "NaN.bits"]
theorem lw_bits : nanBits ∈ lw_cs := by first | decide | exact List.mem_cons_self | simp [lw_cs, nanBits]
end
section
/-! ===== BEGIN words of one list among another's, by their places ===== -/
theorem goodIn_r {big : List Cond} (ws : List Cond) (ps : List Nat) (hp : ws = ps.filterMap (fun i => big[i]?)) (h : ws.all goodWord = true) : GoodIn big ws := by
  intro w hw
  have h1 := List.all_eq_true.mp h w hw
  rw [hp] at hw
  obtain ⟨i, -, hi⟩ := List.mem_filterMap.mp hw
  have hm : w ∈ big := by first | exact List.mem_of_getElem? hi | exact List.getElem?_mem hi
  exact ⟨hm, good_of_word h1⟩
theorem goodIn_app {big a b : List Cond} (ha : GoodIn big a) (hb : GoodIn big b) : GoodIn big (a ++ b) := fun w h => (List.mem_append.mp h).elim (ha w) (hb w)
theorem goodIn_ca {big a b : List Cond} {c : Cond} (ha : GoodIn big (c :: a)) (hb : GoodIn big b) : GoodIn big (c :: (a ++ b)) := fun w h => (List.mem_cons.mp h).elim (fun e => ha w (List.mem_cons.mpr (Or.inl e))) (fun h => (List.mem_append.mp h).elim (fun h => ha w (List.mem_cons.mpr (Or.inr h))) (hb w))
theorem goodIn_sub {big ws : List Cond} (hm : ∀ w ∈ ws, w ∈ big) (h : ws.all goodWord = true) : GoodIn big ws := fun w hw => ⟨hm w hw, good_of_word (List.all_eq_true.mp h w hw)⟩
/-! ===== END ===== -/

/-! ===== BEGIN exceptions that leave a method, and their catching by the caller (launches without stack traces) ===== -/
section VXA
/-! The laws vx_back, vx_callV, vx_callS, vx_callSW, vx_throw0, vx_throwS follow proofs of the library, with one case more: JvmDerived/Free/Laws.lean (Back.of_free), Shelf42/LK1.lean (callV, callS), Shelf/KitTraced.lean (throwNew0V, throwNewS). -/
/-- where a method has thrown q: the class by its name, the cell, what was written, the world -/
def vx_T (XC : String → State → State → Prop) (st : State) (q : Addr) (t : State) (mc ms : Nat) (free : Addr → Prop) : Prop :=
  ∃ (E : String) (ce : Cell) (L : List Loc), XC E st t ∧ t.heap[q]? = some ce ∧ ce.vm = .none ∧ st.vm.findClass E = some ce.cls ∧ st.WarmedH t.vm ∧ st.sameButNew ({ t with vm := st.vm } : State) L mc ms ∧ ∀ z ∈ L, free z.base
def vx_Q (Qc : Array Value → State → Outcome → State → Prop) (XC : String → State → State → Prop) (mc ms : Nat) (free : Addr → Prop) : Array Value → State → Outcome → State → Prop := fun a st o t =>
  (Qc a st o t ∧ ∃ L, FrameEnd st o t L mc ms ∧ ∀ q ∈ L, free q.base) ∨ ∃ q, o = .threw q ∧ vx_T XC st q t mc ms free
/-- a callee that returns or throws -/
def vx_Met (l : Launch) (y : MethodName) (ws : List Cond) (rm : Room) (Pc : Array Value → State → Prop) (Qc : Array Value → State → Outcome → State → Prop) (XC : String → State → State → Prop) (mc ms : Nat) (free : Addr → Prop) : Prop :=
  MetFree l y (headSpec ws rm) Pc (fun _ _ _ _ _ => True) (vx_Q Qc XC mc ms free)
def vx_Post (XC : String → State → State → Prop) (mc ms : Nat) (free : Addr → Prop) : Pt → Array Value → Addr → Pt → Prop := fun A a q B =>
  ∃ (g : JFrame) (mk : MethodId) (t : State) (L : List Loc) (E : String) (ce : Cell), B.U.heap = t.heap ∧ B.U.vm = t.vm ∧ XC E (A.U.calling g mk a) t ∧ t.heap[q]? = some ce ∧ ce.vm = .none ∧ A.U.vm.findClass E = some ce.cls ∧ B.locs = A.locs ++ L ∧ (∀ z ∈ L, free z.base) ∧ B.cells = A.cells + mc ∧ B.slots = A.slots + ms
def vx_Back (l : Launch) (R : Room) (p : Program) (e : Env) (below : List Frame) (s : State) (sargs : Array Value) (y : MethodName) (len W9 : Nat)
    (Pre : Pt → Array Value → Prop) (Post : Pt → Array Value → Option Value → Pt → Prop) (PostX : Pt → Array Value → Addr → Pt → Prop) : Prop :=
  ∀ (m : MethodId) (meth : Method) (c : Code) (A : Pt) (g : JFrame) (ig : Instr) (mk : MethodId) (a : Array Value),
    Stand p l e R s m sargs below meth c A.U A.locs A.cells A.slots → g.method = m → g.locals.size = c.maxLocals → decode c.code g.pc = .ok (ig, len) →
    2 * g.monitorRoom + (g.stack.map fun v => v.category).sum ≤ W9 → A.U.methodNamed? y = some mk → Pre A a →
    (∃ (v : Option Value) (B : Pt), Stand p l e R s m sargs below meth c B.U B.locs B.cells B.slots ∧ Post A a v B ∧
      Steps p.tables e below (doInvoke e (A.U.setTop g) [] mk a).1 (B.U.setTop { g with pc := g.pc + len, stack := v.toList ++ g.stack })) ∨
    (∃ (q : Addr) (B : Pt), Stand p l e R s m sargs below meth c B.U B.locs B.cells B.slots ∧ PostX A a q B ∧
      Steps p.tables e below (doInvoke e (A.U.setTop g) [] mk a).1 ((B.U.setTop g).pushFrame (.throwing q)))
section Payer
variable {l : Launch} {R : Room} {p : Program} {e : Env} {below : List Frame} {s : State} {sargs : Array Value} {y : MethodName} {len W9 : Nat}
theorem vx_back {ws : List Cond} {rm : Room} {Pc : Array Value → State → Prop} {Qc : Array Value → State → Outcome → State → Prop} {XC : String → State → State → Prop} {mc ms : Nat} {free : Addr → Prop} {bytes : ByteArray} {maxL : Nat} {ret : Option FieldType}
    (hM : vx_Met l y ws rm Pc Qc XC mc ms free) (hblind : FrameBlind Pc) (hrc : rm.cells = mc) (hrs : rm.slots = ms)
    (hframes : rm.frames + 1 ≤ R.frames) (hlocals : W9 + (maxL + 11) + rm.locals ≤ R.locals)
    (hws : ∀ w ∈ ws, ∀ a' U, s.WarmedH U.vm → w.before a' U = true) (hcode : Cond.code y bytes maxL ret ∈ ws) (hinit : ∀ a' U, s.WarmedH U.vm → (Cond.initialized y.cls).before a' U = true) :
    vx_Back l R p e below s sargs y len W9 (PreOf R mc ms Pc) (PostOf Qc mc ms free) (vx_Post XC mc ms free) := by
  intro m meth c A g ig mk a X hg hsize hdg hW hn hp
  have h1 : (headSpec ws rm).pre.before a A.U = true := atoms_intro fun w hw => hws w hw _ _ X.warmed
  have h2 : (Cond.code y bytes maxL ret).before a A.U = true := hws _ hcode _ _ X.warmed
  have h3 : (Cond.initialized y.cls).before a A.U = true := hinit _ _ X.warmed
  have h4 : A.cells + (headSpec ws rm).room.cells ≤ R.cells := by rw [show (headSpec ws rm).room.cells = mc from hrc]; exact hp.1
  have h5 : A.slots + (headSpec ws rm).room.slots ≤ R.slots := by rw [show (headSpec ws rm).room.slots = ms from hrs]; exact hp.2.1
  have hPc : Pc a (A.U.calling g mk a) := hblind _ _ _ _ hp.2.2
  obtain ⟨U, Ls, c0, s0⟩ := A
  dsimp only [Pt.U, Pt.locs, Pt.cells, Pt.slots] at h1 h2 h3 h4 h5 X hn hPc ⊢
  obtain ⟨methY, cY, hmY, hcY, -, hlY, -, -, -, -⟩ := Cond.code_spec hn h2
  obtain ⟨kY, hkY, -⟩ := className_of_methodNamed hn
  have hinitY : kY.init = .initialized := Cond.initialized_spec (findClass_of_methodNamed hn) hkY h3
  have h : At U g.method c below := by rw [hg]; exact X.here
  have hlocals9 : W9 + (maxL + 11) + (headSpec ws rm).room.locals ≤ R.locals := hlocals
  have happ : (headSpec ws rm).appliesLoose y e.platform (U.calling g mk a) = true :=
    Spec.appliesLoose_calling (g := g) h hdg hn hkY hinitY
      (X.room_calling (g := g) (R' := (headSpec ws rm).room) hsize hmY hcY hframes (by rw [hlY]; omega) h4 h5) h1
  obtain ⟨mid, hmid⟩ := h.above
  have hfr : (U.setTop g).frames = (.java g :: mid) ++ below := by rw [State.frames_setTop' g h.top, hmid]; rfl
  obtain ⟨o, s₂, hsteps, -, hend, hq⟩ := Steps.callFree hM p X.admits X.cas X.clock (acts := []) hfr happ hPc trivial
  have hq' : vx_Q Qc XC mc ms free a (U.calling g mk a) o s₂ := hq
  rw [State.frames_setTop' g h.top] at hend
  obtain ⟨g₀, hg0⟩ := Option.isSome_iff_exists.mp h.top
  obtain ⟨r, hr⟩ := State.topJava?_eq_some.mp hg0
  have hr' : (({ U with heap := s₂.heap, slotsUsed := s₂.slotsUsed } : State).setVm s₂.vm).frames = .java g₀ :: r := hr
  rcases hq' with ⟨hqc, L, hfe, hL⟩ | ⟨q, rfl, E, ce, L, hx, hce, hcv, hcl, hW₂, hsm, hL⟩
  · obtain ⟨⟨v, rfl⟩, hW₂, e2, q2, q3, q4, q5, q6⟩ := id hfe
    have e3 : s₂ = ({ (U.calling g mk a).setFrames s₂.frames with heap := s₂.heap, slotsUsed := s₂.slotsUsed } : State).setVm s₂.vm := by
      have : s₂ = ({ s₂ with vm := (U.calling g mk a).vm } : State).setVm s₂.vm := rfl
      rw [e2] at this
      exact this
    obtain ⟨c₂, i₂, len₂, hc₂, hd₂, hf₂⟩ := hend
    have hW' : U.WarmedH s₂.vm := hW₂
    have hcc : c₂ = c := by
      have h1 : s₂.code? g.method = U.code? g.method := by
        rw [State.code?_eq, State.code?_eq, hW'.alike.method?]
      exact Option.some.inj (hc₂.symm.trans (h1.trans h.code))
    subst hcc
    have hlen : len₂ = len := by rw [hdg] at hd₂; cases hd₂; rfl
    subst hlen
    have hs₂ : s₂ = (({ U with heap := s₂.heap, slotsUsed := s₂.slotsUsed } : State).setVm s₂.vm).setTop { g with pc := g.pc + len₂, stack := v.toList ++ g.stack } := by
      refine e3.trans ?_
      rw [hf₂, State.calling_eq h.top, State.setFrames_setFrames, State.setTop_of_frames _ hr', hr]
      rfl
    have hsame : U.sameButNew ({ U with heap := s₂.heap, slotsUsed := s₂.slotsUsed } : State) L mc ms := by
      refine ⟨?_, q2, q3, q4, q5, q6⟩
      obtain ⟨t, ht, -⟩ := State.frames_cons hr
      show ({ U with heap := s₂.heap, slotsUsed := s₂.slotsUsed } : State) = { U.setFrames U.frames with heap := s₂.heap, slotsUsed := s₂.slotsUsed }
      rw [State.setFrames_self ht]
    subst hg
    refine Or.inl ⟨v, ⟨(({ U with heap := s₂.heap, slotsUsed := s₂.slotsUsed } : State).setVm s₂.vm), Ls ++ L, c0 + mc, s0 + ms⟩,
      ⟨X.admits, X.cas, X.clock, X.frames, X.room, X.hears, X.method, X.code, (X.here.setHeapUsed s₂.heap s₂.slotsUsed).setVm hW'.alike, X.tail, State.WarmedH.trans X.warmed hW', X.limits, X.bytes, X.same.trans (hsame.setVm s.vm)⟩,
      ⟨g, mk, s₂, L, rfl, rfl, hqc, rfl, hL, rfl, rfl⟩, ?_⟩
    show Steps p.tables e below _ ((({ U with heap := s₂.heap, slotsUsed := s₂.slotsUsed } : State).setVm s₂.vm).setTop { g with pc := g.pc + len₂, stack := v.toList ++ g.stack })
    rw [← hs₂]
    exact hsteps
  · obtain ⟨e2, q2, q3, q4, q5, q6⟩ := id hsm
    have e3 : s₂ = ({ (U.calling g mk a).setFrames s₂.frames with heap := s₂.heap, slotsUsed := s₂.slotsUsed } : State).setVm s₂.vm := by
      have : s₂ = ({ s₂ with vm := (U.calling g mk a).vm } : State).setVm s₂.vm := rfl
      rw [e2] at this
      exact this
    have hf₂ : s₂.frames = .throwing q :: .java g :: U.frames.tail := hend
    have hW' : U.WarmedH s₂.vm := hW₂
    have hs₂ : s₂ = ((({ U with heap := s₂.heap, slotsUsed := s₂.slotsUsed } : State).setVm s₂.vm).setTop g).pushFrame (.throwing q) := by
      refine e3.trans ?_
      rw [hf₂, State.calling_eq h.top, State.setFrames_setFrames, State.pushFrame, State.frames_setTop _ hr', State.setTop_of_frames _ hr', State.setFrames_setFrames, hr]
      rfl
    have hsame : U.sameButNew ({ U with heap := s₂.heap, slotsUsed := s₂.slotsUsed } : State) L mc ms := by
      refine ⟨?_, q2, q3, q4, q5, q6⟩
      obtain ⟨t, ht, -⟩ := State.frames_cons hr
      show ({ U with heap := s₂.heap, slotsUsed := s₂.slotsUsed } : State) = { U.setFrames U.frames with heap := s₂.heap, slotsUsed := s₂.slotsUsed }
      rw [State.setFrames_self ht]
    subst hg
    refine Or.inr ⟨q, ⟨(({ U with heap := s₂.heap, slotsUsed := s₂.slotsUsed } : State).setVm s₂.vm), Ls ++ L, c0 + mc, s0 + ms⟩,
      ⟨X.admits, X.cas, X.clock, X.frames, X.room, X.hears, X.method, X.code, (X.here.setHeapUsed s₂.heap s₂.slotsUsed).setVm hW'.alike, X.tail, State.WarmedH.trans X.warmed hW', X.limits, X.bytes, X.same.trans (hsame.setVm s.vm)⟩,
      ⟨g, mk, s₂, L, E, ce, rfl, rfl, hx, hce, hcv, hcl, rfl, hL, rfl, rfl⟩, ?_⟩
    show Steps p.tables e below _ (((({ U with heap := s₂.heap, slotsUsed := s₂.slotsUsed } : State).setVm s₂.vm).setTop g).pushFrame (.throwing q))
    rw [← hs₂]
    exact hsteps
end Payer
section Calls
variable {p : Program} {l : Launch} {e : Env} {R : Room} {s : State} {m : MethodId} {args : Array Value} {below : List Frame} {meth : Method} {c : Code} {T : State} {locs : List Loc} {cells slots : Nat}
theorem vx_callV (X : Stand p l e R s m args below meth c T locs cells slots) (hexec : p.tables.exec = Jvm.exec) {own C : String} {index : Nat} {y : MethodName} {bytes : ByteArray} {maxL : Nat} {ret : Option FieldType}
    (hown : s.vm.findClass own = some m.cls) (hlink : (Cond.methodLink own index y).before args s = true) (hinst : (Cond.instanceMethod y).before args s = true) (hsel : (Cond.selects C y y).before args s = true)
    (hcode : (Cond.code y bytes maxL ret).before args s = true) (hy : y.cls ≠ "java/lang/invoke/MethodHandle" ∧ y.cls ≠ "java/lang/invoke/VarHandle")
    {W9 : Nat} {Pre : Pt → Array Value → Prop} {Post : Pt → Array Value → Option Value → Pt → Prop} {PostX : Pt → Array Value → Addr → Pt → Prop} (hK : vx_Back l R p e below s args y 3 W9 Pre Post PostX)
    {b : Addr} {cellB : Cell} (hcell : T.heap[b]? = some cellB) (hobj : cellB.vm.isStatics = false) (hcls : s.vm.findClass C = some cellB.cls)
    {g : JFrame} (hg : g.method = m) (hsize : g.locals.size = c.maxLocals) {argsL rest : List Value} (hlen : ∀ sig, parseMethodDescriptor y.desc = some sig → argsL.length = sig.parameters.length)
    (hstack : g.stack = argsL.reverse ++ .ref b :: rest) (hW : 2 * g.monitorRoom + (rest.map fun v => v.category).sum ≤ W9) (hdg : decode c.code g.pc = .ok (.invokevirtual index, 3))
    (hpre : ∀ vm₁, s.WarmedH vm₁ → Pre ⟨T.setVm vm₁, locs, cells, slots⟩ (Value.ref b :: argsL).toArray) :
    (∃ (v : Option Value) (vm₁ : Vm) (B : Pt), s.WarmedH vm₁ ∧ Stand p l e R s m args below meth c B.U B.locs B.cells B.slots ∧ Post ⟨T.setVm vm₁, locs, cells, slots⟩ (Value.ref b :: argsL).toArray v B ∧
      ∀ target, Steps p.tables e below (B.U.setTop { g with pc := g.pc + 3, stack := v.toList ++ rest }) target → Steps p.tables e below (T.setTop g) target) ∨
    (∃ (q : Addr) (vm₁ : Vm) (B : Pt), s.WarmedH vm₁ ∧ Stand p l e R s m args below meth c B.U B.locs B.cells B.slots ∧ PostX ⟨T.setVm vm₁, locs, cells, slots⟩ (Value.ref b :: argsL).toArray q B ∧
      Steps p.tables e below (T.setTop g) ((B.U.setTop { g with stack := rest }).pushFrame (.throwing q))) := by
  obtain ⟨mk, methM, hnamed, hmethM, hstM, habM⟩ := Cond.instanceMethod_spec hinst
  obtain ⟨methM', cM, hmethM', -, -, -, -, -, -, hsigM⟩ := Cond.code_spec hnamed hcode
  cases hmethM.symm.trans hmethM'
  obtain ⟨c2, r2, m2, q1, q2, q3, q4, kP, hkP, hkPi⟩ := Cond.selects_spec hsel
  cases hcls.symm.trans q1
  cases (State.methodFound?_of_named hnamed hy).symm.trans q2
  cases hnamed.symm.trans q3
  have hselP : selectMethod e.platform s.vm cellB.cls mk = .method mk := by rw [Launch.admits_selectMethod X.admits]; exact q4
  obtain ⟨vm₁, X₁, hstep₁⟩ := X.invokevirtual hexec hown hlink hnamed hmethM hstM hkP hkPi hy (a := b) (cell := cellB) hcell
    (fun z h => by rw [h] at hobj; cases hobj) hselP hmethM habM hkP hkPi (g := g) hg (argsL := argsL) (rest := rest) (hlen _ hsigM) hstack hdg
  rcases hK m meth c ⟨T.setVm vm₁, locs, cells, slots⟩ { g with stack := rest } (.invokevirtual index) mk (Value.ref b :: argsL).toArray X₁ hg hsize hdg hW (X₁.named hnamed) (hpre vm₁ X₁.warmed) with ⟨v, B, X', hpost, hsteps⟩ | ⟨q, B, X', hpost, hsteps⟩
  · exact Or.inl ⟨v, vm₁, B, X₁.warmed, X', hpost, fun target h => hstep₁ _ fun acts => by rw [doInvoke_state]; exact hsteps.trans h⟩
  · exact Or.inr ⟨q, vm₁, B, X₁.warmed, X', hpost, hstep₁ _ fun acts => by rw [doInvoke_state]; exact hsteps⟩
theorem vx_callS (X : Stand p l e R s m args below meth c T locs cells slots) (hexec : p.tables.exec = Jvm.exec) {own : String} {index : Nat} {y : MethodName} {bytes : ByteArray} {maxL : Nat} {ret : Option FieldType}
    (hown : s.vm.findClass own = some m.cls) (hlink : (Cond.methodLink own index y).before args s = true) (hstat : (Cond.static y).before args s = true) (hinit : (Cond.initialized y.cls).before args s = true)
    (hcode : (Cond.code y bytes maxL ret).before args s = true) (hy : y.cls ≠ "java/lang/invoke/MethodHandle" ∧ y.cls ≠ "java/lang/invoke/VarHandle")
    {W9 : Nat} {Pre : Pt → Array Value → Prop} {Post : Pt → Array Value → Option Value → Pt → Prop} {PostX : Pt → Array Value → Addr → Pt → Prop} (hK : vx_Back l R p e below s args y 3 W9 Pre Post PostX)
    {g : JFrame} (hg : g.method = m) (hsize : g.locals.size = c.maxLocals) {argsL rest : List Value} (hlen : ∀ sig, parseMethodDescriptor y.desc = some sig → argsL.length = sig.parameters.length)
    (hstack : g.stack = argsL.reverse ++ rest) (hW : 2 * g.monitorRoom + (rest.map fun v => v.category).sum ≤ W9) (hdg : decode c.code g.pc = .ok (.invokestatic index, 3))
    (hpre : ∀ vm₁, s.WarmedH vm₁ → Pre ⟨T.setVm vm₁, locs, cells, slots⟩ argsL.toArray) :
    (∃ (v : Option Value) (vm₁ : Vm) (B : Pt), s.WarmedH vm₁ ∧ Stand p l e R s m args below meth c B.U B.locs B.cells B.slots ∧ Post ⟨T.setVm vm₁, locs, cells, slots⟩ argsL.toArray v B ∧
      ∀ target, Steps p.tables e below (B.U.setTop { g with pc := g.pc + 3, stack := v.toList ++ rest }) target → Steps p.tables e below (T.setTop g) target) ∨
    (∃ (q : Addr) (vm₁ : Vm) (B : Pt), s.WarmedH vm₁ ∧ Stand p l e R s m args below meth c B.U B.locs B.cells B.slots ∧ PostX ⟨T.setVm vm₁, locs, cells, slots⟩ argsL.toArray q B ∧
      Steps p.tables e below (T.setTop g) ((B.U.setTop { g with stack := rest }).pushFrame (.throwing q))) := by
  obtain ⟨mk, hnamed⟩ := Cond.code_named hcode
  obtain ⟨methM, cM, hmethM, -, -, -, -, -, -, hsigM⟩ := Cond.code_spec hnamed hcode
  have hstatic : methM.isStatic = true := Cond.static_spec hnamed hmethM hstat
  obtain ⟨kP, hkP, -⟩ := className_of_methodNamed hnamed
  have hinitP : kP.init = .initialized := Cond.initialized_spec (findClass_of_methodNamed hnamed) hkP hinit
  obtain ⟨vm₁, X₁, hstep₁⟩ := X.invokestatic hexec hown hlink hnamed hmethM hstatic hkP hinitP hy (g := g) hg (argsL := argsL) (rest := rest) (hlen _ hsigM) hstack hdg
  rcases hK m meth c ⟨T.setVm vm₁, locs, cells, slots⟩ { g with stack := rest } (.invokestatic index) mk argsL.toArray X₁ hg hsize hdg hW (X₁.named hnamed) (hpre vm₁ X₁.warmed) with ⟨v, B, X', hpost, hsteps⟩ | ⟨q, B, X', hpost, hsteps⟩
  · exact Or.inl ⟨v, vm₁, B, X₁.warmed, X', hpost, fun target h => hstep₁ _ fun acts => by rw [doInvoke_state]; exact hsteps.trans h⟩
  · exact Or.inr ⟨q, vm₁, B, X₁.warmed, X', hpost, hstep₁ _ fun acts => by rw [doInvoke_state]; exact hsteps⟩
end Calls
theorem vx_cls {s : State} {T : State} {vm₁ : Vm} {E : String} {k : ClassId} (hW : s.WarmedH vm₁) (h : (T.setVm vm₁).vm.findClass E = some k) : s.vm.findClass E = some k := by
  have h1 : vm₁.findClass E = some k := h
  rw [hW.alike.findClass] at h1
  exact h1
/-- the method's frame g, with q thrown over it -/
def vx_W (p : Program) (l : Launch) (e : Env) (R : Room) (s : State) (m : MethodId) (args : Array Value) (below : List Frame) (meth : Method) (c : Code) (H : Heap) (locs : List Loc) (cells slots : Nat) (Q : State → Prop) (g : JFrame) (q : Addr) : Prop :=
  ∀ T : State, T.heap = H → Stand p l e R s m args below meth c T locs cells slots → ∃ t, Steps p.tables e below ((T.setTop g).pushFrame (.throwing q)) t ∧ Q t
def vx_Run (p : Program) (l : Launch) (e : Env) (R : Room) (s : State) (m : MethodId) (args : Array Value) (below : List Frame) (meth : Method) (c : Code) (H : Heap) (locs : List Loc) (cells slots mc ms : Nat) (g : JFrame) (rest : List Value) (Qa : State → Outcome → State → Prop) (XC : String → State → State → Prop) (free : Addr → Prop) : Prop :=
  ∀ T : State, T.heap = H → Stand p l e R s m args below meth c T locs cells slots →
    (∃ (v : Option Value) (st₀ t T' : State) (L : List Loc), st₀.heap = H ∧ Stand p l e R s m args below meth c T' (locs ++ L) (cells + mc) (slots + ms) ∧ (∀ q ∈ L, free q.base) ∧ T'.heap = t.heap ∧ T'.vm = t.vm ∧ Qa st₀ (.returned v) t ∧
      Goes p e below T g T' { g with pc := g.pc + 3, stack := v.toList ++ rest }) ∨
    (∃ (q : Addr) (st₀ t T' : State) (L : List Loc) (E : String) (ce : Cell), st₀.heap = H ∧ Stand p l e R s m args below meth c T' (locs ++ L) (cells + mc) (slots + ms) ∧ (∀ z ∈ L, free z.base) ∧ T'.heap = t.heap ∧ T'.vm = t.vm ∧ XC E st₀ t ∧ t.heap[q]? = some ce ∧ ce.vm = .none ∧ s.vm.findClass E = some ce.cls ∧
      Steps p.tables e below (T.setTop g) ((T'.setTop { g with stack := rest }).pushFrame (.throwing q)))
def vx_X {S : Type} (px : S → Prop) (B : String → S → State → Prop) (A : Nat → Prop) : String → State → State → Prop := fun E st t => ∃ u : S, px u ∧ B E u t ∧ va_F A st t
section Runs
variable {p : Program} {l : Launch} {e : Env} {R : Room} {s : State} {m : MethodId} {args : Array Value} {below : List Frame} {meth : Method} {c : Code} {H : Heap} {locs : List Loc} {cells slots : Nat}
variable {y : MethodName} {bytes cc : ByteArray} {maxL nL mc ms n index : Nat} {ret : Option FieldType} {ws : List Cond} {rm : Room} {Pc : Array Value → State → Prop} {Qc : Array Value → State → Outcome → State → Prop} {XC : String → State → State → Prop} {free : Addr → Prop} {Ts : List Cond} {own C : String} {b : Addr} {As rest : List Value} {g : JFrame}
theorem vx_callBack (cb : CallB R s args own index y bytes maxL ret ws rm mc ms n) (hM : vx_Met l y ws rm Pc Qc XC mc ms free) (hbl : FrameBlind Pc) : vx_Back l R p e below s args y 3 8 (PreOf R mc ms Pc) (PostOf Qc mc ms free) (vx_Post XC mc ms free) := by
  obtain ⟨hrc, hrs, hfr, hlo, hws, hcw, -, hini, -⟩ := cb
  exact vx_back (bytes := bytes) (maxL := maxL) (ret := ret) hM hbl hrc hrs hfr hlo hws hcw (fun a' U hW => word_at hW (Or.inl (by first | rfl | simp [Cond.onTables, Cond.keeps, Cond.steady])) hini)
theorem vx_runV (S : CallFix p m c cc nL s args Ts own) (hM : vx_Met l y ws rm Pc Qc XC mc ms free) (cw : CallW R s args own C index y bytes maxL ret ws rm mc ms n) (hp : PreV s H C b Pc As)
    (hg : g.method = m) (hn : As.length = n) (hsize : g.locals.size = nL) (hstack : g.stack = As.reverse ++ .ref b :: rest) (hW : 2 * g.monitorRoom + (rest.map fun v => v.category).sum ≤ 8) (hdg : decode cc g.pc = .ok (.invokevirtual index, 3)) (hf : cells + mc ≤ R.cells ∧ slots + ms ≤ R.slots) :
    vx_Run p l e R s m args below meth c H locs cells slots mc ms g rest (Qc (Value.ref b :: As).toArray) XC free := by
  have hK : vx_Back l R p e below s args y 3 8 (PreOf R mc ms Pc) (PostOf Qc mc ms free) (vx_Post XC mc ms free) := vx_callBack cw.1 hM hp.1
  obtain ⟨⟨-, -, -, -, -, -, hcode, -, hy, hlen, hl⟩, hin, hse⟩ := cw
  obtain ⟨hx, hb, hml, ho, -⟩ := S
  obtain ⟨-, ⟨cellB, hcB, hoB, hclB⟩, hPc⟩ := hp
  intro T hT X
  rcases vx_callV X hx (C := C) (bytes := bytes) (maxL := maxL) (ret := ret) ho hl hin hse hcode hy hK (by rw [hT]; exact hcB) hoB hclB hg (hsize.trans hml.symm) (argsL := As) (rest := rest) (fun sig h => hn.trans (hlen sig h)) hstack hW (by rw [hb]; exact hdg)
    (fun vm₁ hW₁ => ⟨hf.1, hf.2, hPc (T.setVm vm₁) hT hW₁⟩) with ⟨v, vm₁, ⟨U', l2, c2, s2⟩, hW₁, X', ⟨g', mk, t, L, e1, e2, hq, h1, hL, h2, h3⟩, st⟩ | ⟨q, vm₁, ⟨U', l2, c2, s2⟩, hW₁, X', ⟨g', mk, t, L, E, ce, e1, e2, hq, hce, hcv, hcl, h1, hL, h2, h3⟩, st⟩
  · dsimp only [Pt.U, Pt.locs, Pt.cells, Pt.slots] at X' e1 e2 h1 h2 h3 st
    subst h1; subst h2; subst h3
    exact Or.inl ⟨v, (T.setVm vm₁).calling g' mk (Value.ref b :: As).toArray, t, U', L, hT, X', hL, e1, e2, hq, st⟩
  · dsimp only [Pt.U, Pt.locs, Pt.cells, Pt.slots] at X' e1 e2 h1 h2 h3 st hcl
    subst h1; subst h2; subst h3
    exact Or.inr ⟨q, (T.setVm vm₁).calling g' mk (Value.ref b :: As).toArray, t, U', L, E, ce, hT, X', hL, e1, e2, hq, hce, hcv, vx_cls hW₁ hcl, st⟩
theorem vx_runS (S : CallFix p m c cc nL s args Ts own) (hM : vx_Met l y ws rm Pc Qc XC mc ms free) (cw : CallB R s args own index y bytes maxL ret ws rm mc ms n ∧ (Cond.static y).before args s = true) (hp : PreS s H Pc As)
    (hg : g.method = m) (hn : As.length = n) (hsize : g.locals.size = nL) (hstack : g.stack = As.reverse ++ rest) (hW : 2 * g.monitorRoom + (rest.map fun v => v.category).sum ≤ 8) (hdg : decode cc g.pc = .ok (.invokestatic index, 3)) (hf : cells + mc ≤ R.cells ∧ slots + ms ≤ R.slots) :
    vx_Run p l e R s m args below meth c H locs cells slots mc ms g rest (Qc As.toArray) XC free := by
  have hK : vx_Back l R p e below s args y 3 8 (PreOf R mc ms Pc) (PostOf Qc mc ms free) (vx_Post XC mc ms free) := vx_callBack cw.1 hM hp.1
  obtain ⟨⟨-, -, -, -, -, -, hcode, hini, hy, hlen, hl⟩, hstt⟩ := cw
  obtain ⟨hx, hb, hml, ho, -⟩ := S
  intro T hT X
  rcases vx_callS X hx (bytes := bytes) (maxL := maxL) (ret := ret) ho hl hstt hini hcode hy hK hg (hsize.trans hml.symm) (argsL := As) (rest := rest) (fun sig h => hn.trans (hlen sig h)) hstack hW (by rw [hb]; exact hdg)
    (fun vm₁ hW₁ => ⟨hf.1, hf.2, hp.2 (T.setVm vm₁) hT hW₁⟩) with ⟨v, vm₁, ⟨U', l2, c2, s2⟩, hW₁, X', ⟨g', mk, t, L, e1, e2, hq, h1, hL, h2, h3⟩, st⟩ | ⟨q, vm₁, ⟨U', l2, c2, s2⟩, hW₁, X', ⟨g', mk, t, L, E, ce, e1, e2, hq, hce, hcv, hcl, h1, hL, h2, h3⟩, st⟩
  · dsimp only [Pt.U, Pt.locs, Pt.cells, Pt.slots] at X' e1 e2 h1 h2 h3 st
    subst h1; subst h2; subst h3
    exact Or.inl ⟨v, (T.setVm vm₁).calling g' mk As.toArray, t, U', L, hT, X', hL, e1, e2, hq, st⟩
  · dsimp only [Pt.U, Pt.locs, Pt.cells, Pt.slots] at X' e1 e2 h1 h2 h3 st hcl
    subst h1; subst h2; subst h3
    exact Or.inr ⟨q, (T.setVm vm₁).calling g' mk As.toArray, t, U', L, E, ce, hT, X', hL, e1, e2, hq, hce, hcv, vx_cls hW₁ hcl, st⟩
end Runs
section Rows
variable {p : Program} {l : Launch} {e : Env} {R : Room} {s : State} {m : MethodId} {args : Array Value} {below : List Frame} {meth : Method} {c : Code} {H : Heap} {locs : List Loc} {cells slots : Nat} {Q : State → Prop}
variable {mc ms : Nat} {free : Addr → Prop} {A0 A1 : Nat → Prop} {H0 : Heap} {a : Array Value} {pc : Nat} {ls : Array Slot} {st0 rest : List Value}
theorem vx_keep {st₀ t T' : State} {L : List Loc} (h0 : st₀.heap = H) (e1 : T'.heap = t.heap) (hS : va_S A0 H0 H locs) (hA : ∀ q, q < H.size → A1 q → A0 q) (hf : ∀ q, free q → A0 q) (hL : ∀ q ∈ L, free q.base) (hF : va_F A1 st₀ t) :
    H.size ≤ T'.heap.size ∧ (∀ q : Nat, q < H.size → ¬ A1 q → T'.heap[q]? = H[q]?) ∧ va_S A0 H0 T'.heap (locs ++ L) := by
  obtain ⟨hz, hk⟩ := hF
  rw [h0] at hz hk
  exact ⟨by rw [e1]; exact hz, fun q h1 h2 => by rw [e1]; exact hk q h1 h2,
    ⟨Nat.le_trans hS.1 (by rw [e1]; exact hz), fun q h1 h2 => by rw [e1, hk q (Nat.lt_of_lt_of_le h1 hS.1) (fun z => h2 (hA q (Nat.lt_of_lt_of_le h1 hS.1) z))]; exact hS.2.1 q h1 h2, fun q hq => by
      rcases List.mem_append.mp hq with h | h
      · exact hS.2.2 q h
      · exact hf _ (hL q h)⟩⟩
theorem vx_calli {S SX : Type} {post : Int32 → S → Prop} {px : SX → Prop} {B : S → State → Prop} {BX : String → SX → State → Prop} {AX : Nat → Prop} (hr : vx_Run p l e R s m args below meth c H locs cells slots mc ms (F0 m pc ls st0) rest (va_Qi post B A1 a) (vx_X px BX AX) free) (hS : va_S A0 H0 H locs) (hA : ∀ q, q < H.size → A1 q → A0 q) (hf : ∀ q, free q → A0 q) (hAX : ∀ q, q < H.size → AX q → A0 q)
    (kx : ∀ (E : String) (ce : Cell) (q9 : Addr) (u : SX) (t : State) (H1 : Heap) (locs1 : List Loc), t.heap = H1 → s.vm.Alike t.vm → px u → BX E u t → H.size ≤ H1.size → (∀ q : Nat, q < H.size → ¬ AX q → H1[q]? = H[q]?) → va_S A0 H0 H1 locs1 → H1[q9]? = some ce → ce.vm = .none → s.vm.findClass E = some ce.cls → vx_W p l e R s m args below meth c H1 locs1 (cells + mc) (slots + ms) Q (F0 m pc ls rest) q9)
    (kk : ∀ (r : Int32) (u : S) (t : State) (H1 : Heap) (locs1 : List Loc), t.heap = H1 → s.vm.Alike t.vm → post r u → B u t → H.size ≤ H1.size → (∀ q : Nat, q < H.size → ¬ A1 q → H1[q]? = H[q]?) → va_S A0 H0 H1 locs1 → W p l e R s m args below meth c H1 locs1 (cells + mc) (slots + ms) Q (F0 m (pc + 3) ls (.int r :: rest))) : W p l e R s m args below meth c H locs cells slots Q (F0 m pc ls st0) := by
  intro T hT X
  rcases hr T hT X with ⟨v, st₀, t, T', L, h0, X', hL, e1, e2, ⟨⟨r, u, hv, hp, hb⟩, hF⟩, st⟩ | ⟨q, st₀, t, T', L, E, ce, h0, X', hL, e1, e2, ⟨u, hp, hb, hF⟩, hce, hcv, hcl, st⟩
  · cases hv
    obtain ⟨k1, k2, k3⟩ := vx_keep h0 e1 hS hA hf hL hF
    obtain ⟨t2, a1, b1⟩ := kk r u t T'.heap (locs ++ L) e1.symm (by rw [← e2]; exact X'.warmed.alike) hp hb k1 k2 k3 T' rfl X'
    exact ⟨t2, st t2 a1, b1⟩
  · obtain ⟨k1, k2, k3⟩ := vx_keep h0 e1 hS hAX hf hL hF
    obtain ⟨t2, a1, b1⟩ := kx E ce q u t T'.heap (locs ++ L) e1.symm (by rw [← e2]; exact X'.warmed.alike) hp hb k1 k2 k3 (by rw [e1]; exact hce) hcv hcl T' rfl X'
    exact ⟨t2, st.trans a1, b1⟩
theorem vx_calll {S SX : Type} {post : Int64 → S → Prop} {px : SX → Prop} {B : S → State → Prop} {BX : String → SX → State → Prop} {AX : Nat → Prop} (hr : vx_Run p l e R s m args below meth c H locs cells slots mc ms (F0 m pc ls st0) rest (va_Ql post B A1 a) (vx_X px BX AX) free) (hS : va_S A0 H0 H locs) (hA : ∀ q, q < H.size → A1 q → A0 q) (hf : ∀ q, free q → A0 q) (hAX : ∀ q, q < H.size → AX q → A0 q)
    (kx : ∀ (E : String) (ce : Cell) (q9 : Addr) (u : SX) (t : State) (H1 : Heap) (locs1 : List Loc), t.heap = H1 → s.vm.Alike t.vm → px u → BX E u t → H.size ≤ H1.size → (∀ q : Nat, q < H.size → ¬ AX q → H1[q]? = H[q]?) → va_S A0 H0 H1 locs1 → H1[q9]? = some ce → ce.vm = .none → s.vm.findClass E = some ce.cls → vx_W p l e R s m args below meth c H1 locs1 (cells + mc) (slots + ms) Q (F0 m pc ls rest) q9)
    (kk : ∀ (r : Int64) (u : S) (t : State) (H1 : Heap) (locs1 : List Loc), t.heap = H1 → s.vm.Alike t.vm → post r u → B u t → H.size ≤ H1.size → (∀ q : Nat, q < H.size → ¬ A1 q → H1[q]? = H[q]?) → va_S A0 H0 H1 locs1 → W p l e R s m args below meth c H1 locs1 (cells + mc) (slots + ms) Q (F0 m (pc + 3) ls (.long r :: rest))) : W p l e R s m args below meth c H locs cells slots Q (F0 m pc ls st0) := by
  intro T hT X
  rcases hr T hT X with ⟨v, st₀, t, T', L, h0, X', hL, e1, e2, ⟨⟨r, u, hv, hp, hb⟩, hF⟩, st⟩ | ⟨q, st₀, t, T', L, E, ce, h0, X', hL, e1, e2, ⟨u, hp, hb, hF⟩, hce, hcv, hcl, st⟩
  · cases hv
    obtain ⟨k1, k2, k3⟩ := vx_keep h0 e1 hS hA hf hL hF
    obtain ⟨t2, a1, b1⟩ := kk r u t T'.heap (locs ++ L) e1.symm (by rw [← e2]; exact X'.warmed.alike) hp hb k1 k2 k3 T' rfl X'
    exact ⟨t2, st t2 a1, b1⟩
  · obtain ⟨k1, k2, k3⟩ := vx_keep h0 e1 hS hAX hf hL hF
    obtain ⟨t2, a1, b1⟩ := kx E ce q u t T'.heap (locs ++ L) e1.symm (by rw [← e2]; exact X'.warmed.alike) hp hb k1 k2 k3 (by rw [e1]; exact hce) hcv hcl T' rfl X'
    exact ⟨t2, st.trans a1, b1⟩
theorem vx_callf {S SX : Type} {post : UInt32 → S → Prop} {px : SX → Prop} {B : S → State → Prop} {BX : String → SX → State → Prop} {AX : Nat → Prop} (hr : vx_Run p l e R s m args below meth c H locs cells slots mc ms (F0 m pc ls st0) rest (va_Qf post B A1 a) (vx_X px BX AX) free) (hS : va_S A0 H0 H locs) (hA : ∀ q, q < H.size → A1 q → A0 q) (hf : ∀ q, free q → A0 q) (hAX : ∀ q, q < H.size → AX q → A0 q)
    (kx : ∀ (E : String) (ce : Cell) (q9 : Addr) (u : SX) (t : State) (H1 : Heap) (locs1 : List Loc), t.heap = H1 → s.vm.Alike t.vm → px u → BX E u t → H.size ≤ H1.size → (∀ q : Nat, q < H.size → ¬ AX q → H1[q]? = H[q]?) → va_S A0 H0 H1 locs1 → H1[q9]? = some ce → ce.vm = .none → s.vm.findClass E = some ce.cls → vx_W p l e R s m args below meth c H1 locs1 (cells + mc) (slots + ms) Q (F0 m pc ls rest) q9)
    (kk : ∀ (r : UInt32) (u : S) (t : State) (H1 : Heap) (locs1 : List Loc), t.heap = H1 → s.vm.Alike t.vm → post r u → B u t → H.size ≤ H1.size → (∀ q : Nat, q < H.size → ¬ A1 q → H1[q]? = H[q]?) → va_S A0 H0 H1 locs1 → W p l e R s m args below meth c H1 locs1 (cells + mc) (slots + ms) Q (F0 m (pc + 3) ls (.float r :: rest))) : W p l e R s m args below meth c H locs cells slots Q (F0 m pc ls st0) := by
  intro T hT X
  rcases hr T hT X with ⟨v, st₀, t, T', L, h0, X', hL, e1, e2, ⟨⟨r, u, hv, hp, hb⟩, hF⟩, st⟩ | ⟨q, st₀, t, T', L, E, ce, h0, X', hL, e1, e2, ⟨u, hp, hb, hF⟩, hce, hcv, hcl, st⟩
  · cases hv
    obtain ⟨k1, k2, k3⟩ := vx_keep h0 e1 hS hA hf hL hF
    obtain ⟨t2, a1, b1⟩ := kk r u t T'.heap (locs ++ L) e1.symm (by rw [← e2]; exact X'.warmed.alike) hp hb k1 k2 k3 T' rfl X'
    exact ⟨t2, st t2 a1, b1⟩
  · obtain ⟨k1, k2, k3⟩ := vx_keep h0 e1 hS hAX hf hL hF
    obtain ⟨t2, a1, b1⟩ := kx E ce q u t T'.heap (locs ++ L) e1.symm (by rw [← e2]; exact X'.warmed.alike) hp hb k1 k2 k3 (by rw [e1]; exact hce) hcv hcl T' rfl X'
    exact ⟨t2, st.trans a1, b1⟩
theorem vx_calld {S SX : Type} {post : UInt64 → S → Prop} {px : SX → Prop} {B : S → State → Prop} {BX : String → SX → State → Prop} {AX : Nat → Prop} (hr : vx_Run p l e R s m args below meth c H locs cells slots mc ms (F0 m pc ls st0) rest (va_Qd post B A1 a) (vx_X px BX AX) free) (hS : va_S A0 H0 H locs) (hA : ∀ q, q < H.size → A1 q → A0 q) (hf : ∀ q, free q → A0 q) (hAX : ∀ q, q < H.size → AX q → A0 q)
    (kx : ∀ (E : String) (ce : Cell) (q9 : Addr) (u : SX) (t : State) (H1 : Heap) (locs1 : List Loc), t.heap = H1 → s.vm.Alike t.vm → px u → BX E u t → H.size ≤ H1.size → (∀ q : Nat, q < H.size → ¬ AX q → H1[q]? = H[q]?) → va_S A0 H0 H1 locs1 → H1[q9]? = some ce → ce.vm = .none → s.vm.findClass E = some ce.cls → vx_W p l e R s m args below meth c H1 locs1 (cells + mc) (slots + ms) Q (F0 m pc ls rest) q9)
    (kk : ∀ (r : UInt64) (u : S) (t : State) (H1 : Heap) (locs1 : List Loc), t.heap = H1 → s.vm.Alike t.vm → post r u → B u t → H.size ≤ H1.size → (∀ q : Nat, q < H.size → ¬ A1 q → H1[q]? = H[q]?) → va_S A0 H0 H1 locs1 → W p l e R s m args below meth c H1 locs1 (cells + mc) (slots + ms) Q (F0 m (pc + 3) ls (.double r :: rest))) : W p l e R s m args below meth c H locs cells slots Q (F0 m pc ls st0) := by
  intro T hT X
  rcases hr T hT X with ⟨v, st₀, t, T', L, h0, X', hL, e1, e2, ⟨⟨r, u, hv, hp, hb⟩, hF⟩, st⟩ | ⟨q, st₀, t, T', L, E, ce, h0, X', hL, e1, e2, ⟨u, hp, hb, hF⟩, hce, hcv, hcl, st⟩
  · cases hv
    obtain ⟨k1, k2, k3⟩ := vx_keep h0 e1 hS hA hf hL hF
    obtain ⟨t2, a1, b1⟩ := kk r u t T'.heap (locs ++ L) e1.symm (by rw [← e2]; exact X'.warmed.alike) hp hb k1 k2 k3 T' rfl X'
    exact ⟨t2, st t2 a1, b1⟩
  · obtain ⟨k1, k2, k3⟩ := vx_keep h0 e1 hS hAX hf hL hF
    obtain ⟨t2, a1, b1⟩ := kx E ce q u t T'.heap (locs ++ L) e1.symm (by rw [← e2]; exact X'.warmed.alike) hp hb k1 k2 k3 (by rw [e1]; exact hce) hcv hcl T' rfl X'
    exact ⟨t2, st.trans a1, b1⟩
theorem vx_callv {S SX : Type} {post : S → Prop} {px : SX → Prop} {B : S → State → Prop} {BX : String → SX → State → Prop} {AX : Nat → Prop} (hr : vx_Run p l e R s m args below meth c H locs cells slots mc ms (F0 m pc ls st0) rest (va_Qv post B A1 a) (vx_X px BX AX) free) (hS : va_S A0 H0 H locs) (hA : ∀ q, q < H.size → A1 q → A0 q) (hf : ∀ q, free q → A0 q) (hAX : ∀ q, q < H.size → AX q → A0 q)
    (kx : ∀ (E : String) (ce : Cell) (q9 : Addr) (u : SX) (t : State) (H1 : Heap) (locs1 : List Loc), t.heap = H1 → s.vm.Alike t.vm → px u → BX E u t → H.size ≤ H1.size → (∀ q : Nat, q < H.size → ¬ AX q → H1[q]? = H[q]?) → va_S A0 H0 H1 locs1 → H1[q9]? = some ce → ce.vm = .none → s.vm.findClass E = some ce.cls → vx_W p l e R s m args below meth c H1 locs1 (cells + mc) (slots + ms) Q (F0 m pc ls rest) q9)
    (kk : ∀ (u : S) (t : State) (H1 : Heap) (locs1 : List Loc), t.heap = H1 → s.vm.Alike t.vm → post u → B u t → H.size ≤ H1.size → (∀ q : Nat, q < H.size → ¬ A1 q → H1[q]? = H[q]?) → va_S A0 H0 H1 locs1 → W p l e R s m args below meth c H1 locs1 (cells + mc) (slots + ms) Q (F0 m (pc + 3) ls (rest))) : W p l e R s m args below meth c H locs cells slots Q (F0 m pc ls st0) := by
  intro T hT X
  rcases hr T hT X with ⟨v, st₀, t, T', L, h0, X', hL, e1, e2, ⟨⟨u, hv, hp, hb⟩, hF⟩, st⟩ | ⟨q, st₀, t, T', L, E, ce, h0, X', hL, e1, e2, ⟨u, hp, hb, hF⟩, hce, hcv, hcl, st⟩
  · cases hv
    obtain ⟨k1, k2, k3⟩ := vx_keep h0 e1 hS hA hf hL hF
    obtain ⟨t2, a1, b1⟩ := kk u t T'.heap (locs ++ L) e1.symm (by rw [← e2]; exact X'.warmed.alike) hp hb k1 k2 k3 T' rfl X'
    exact ⟨t2, st t2 a1, b1⟩
  · obtain ⟨k1, k2, k3⟩ := vx_keep h0 e1 hS hAX hf hL hF
    obtain ⟨t2, a1, b1⟩ := kx E ce q u t T'.heap (locs ++ L) e1.symm (by rw [← e2]; exact X'.warmed.alike) hp hb k1 k2 k3 (by rw [e1]; exact hce) hcv hcl T' rfl X'
    exact ⟨t2, st.trans a1, b1⟩
/-- caught by the row x of this method's table; the rows ahead don't take it -/
theorem vx_catch {own name : String} {E : String} {ce : Cell} {q : Addr} (hown : s.vm.findClass own = some m.cls) (pre : List ExceptionTableEntry) (x : ExceptionTableEntry) (suf : List ExceptionTableEntry) (hsplit : c.exceptionTable.toList = pre ++ x :: suf)
    (hpass : ∀ z ∈ pre, covers z pc = false ∨ (z.catchType ≠ 0 ∧ ∃ nm : String, (Cond.classLink own z.catchType nm).before args s = true ∧ va_Nc E nm s)) (hx : covers x pc = true) (h0 : x.catchType ≠ 0)
    (hlink : (Cond.classLink own x.catchType name).before args s = true) (hcast : (Cond.castable E name).before args s = true) (hcell : H[q]? = some ce) (hv : ce.vm = .none) (hcl : s.vm.findClass E = some ce.cls)
    (kk : W p l e R s m args below meth c H locs cells slots Q (F0 m x.handlerPc ls [.ref q])) : vx_W p l e R s m args below meth c H locs cells slots Q (F0 m pc ls rest) q := by
  intro T hT X
  have hpl : e.platform.magicAccessors = ({} : Platform).magicAccessors := by rw [X.admits.platform]
  obtain ⟨c3, c4, hc3, hc4, hasg⟩ := Cond.castable_spec hcast
  cases Option.some.inj (hc3.symm.trans hcl)
  obtain ⟨c5, hc5, hcl5⟩ := Cond.classLink_spec hown hlink e.platform hpl
  cases Option.some.inj (hc4.symm.trans hc5)
  obtain ⟨vm', X', st⟩ := X.thenCaughtThrough q (g := F0 m pc ls rest) rfl (Steps.refl _) (by rw [hT]; exact hcell) (by rw [hv]; rfl) (by obtain ⟨k9, h9, -⟩ := Vm.findClass_spec hcl; exact ⟨k9, h9⟩) pre x suf hsplit
    (fun z hz => by
      rcases hpass z hz with h | ⟨hz0, nm, hl1, hn1⟩
      · exact Or.inl h
      · obtain ⟨c6, hc6, hcl6⟩ := Cond.classLink_spec hown hl1 e.platform hpl
        obtain ⟨a8, b8, h1, h2, h3⟩ := hn1
        cases Option.some.inj (h1.symm.trans hcl)
        cases Option.some.inj (h2.symm.trans hc6)
        exact Or.inr ⟨hz0, _, hcl6, h3⟩) hx (Or.inr ⟨h0, c4, hcl5, hasg⟩)
  obtain ⟨t, a1, b1⟩ := kk (T.setVm vm') hT X'
  exact ⟨t, st.trans a1, b1⟩
end Rows
section Ends
variable {p : Program} {l : Launch} {e : Env} {R : Room} {s : State} {m : MethodId} {args : Array Value} {below : List Frame} {meth : Method} {c : Code} {H : Heap} {locs : List Loc} {cells slots : Nat} {Q : State → Prop}
variable {mc ms : Nat} {free : Addr → Prop} {A0 A1 : Nat → Prop} {H0 : Heap} {a : Array Value} {ls : Array Slot} {st0 rest : List Value}
variable {Qc : Array Value → State → Outcome → State → Prop} {XC : String → State → State → Prop}
/-- what a body that may throw owes at its end -/
def vx_MQ (below : List Frame) (Qc : Array Value → State → Outcome → State → Prop) (XC : String → State → State → Prop) (a : Array Value) (s : State) (mc ms : Nat) (free : Addr → Prop) : State → Prop := fun t =>
  ∃ o, t.status = .running ∧ Ended t below o ∧ vx_Q Qc XC mc ms free a s o t
theorem vx_ret {g : JFrame} {mc ms : Nat} (k : W p l e R s m args below meth c H locs cells slots (MQ below Qc args s mc ms free) g) : W p l e R s m args below meth c H locs cells slots (vx_MQ below Qc XC args s mc ms free) g := by
  intro T hT X
  obtain ⟨t, a1, o, b1, b2, b3, b4⟩ := k T hT X
  exact ⟨t, a1, o, b1, b2, Or.inl ⟨b3, b4⟩⟩
/-- not caught here: it goes on to the caller -/
theorem vx_widen {g : JFrame} {q : Addr} {k n : Nat} (h1 : cells ≤ k) (h2 : slots ≤ n) (kk : vx_W p l e R s m args below meth c H locs k n Q g q) : vx_W p l e R s m args below meth c H locs cells slots Q g q := fun T hT X => kk T hT (stand_widen X h1 h2)
theorem vx_out {pc : Nat} {E : String} {ce : Cell} {q : Addr} {mc ms : Nat} (hout : ∀ x ∈ c.exceptionTable.toList, covers x pc = false) (hlocks : meth.locks = false) (hcell : H[q]? = some ce) (hv : ce.vm = .none) (hcl : s.vm.findClass E = some ce.cls)
    (hx : ∀ t : State, t.heap = H → s.vm.Alike t.vm → XC E s t) (hf : ∀ z ∈ locs, free z.base) (hc : cells ≤ mc) (hs : slots ≤ ms) :
    vx_W p l e R s m args below meth c H locs cells slots (vx_MQ below Qc XC args s mc ms free) (F0 m pc ls rest) q := by
  intro T hT X
  obtain ⟨st1, hrun, hend, hW, hsm⟩ := X.leaveThrown q (g := F0 m pc ls rest) rfl rfl rfl hout hlocks
  have hcell9 : (T.setFrames (.throwing q :: below)).heap[q]? = some ce := by
    show T.heap[q]? = some ce
    rw [hT]; exact hcell
  exact ⟨_, st1, .threw q, hrun, hend, Or.inr ⟨q, rfl, E, ce, locs, hx _ hT hW.alike, hcell9, hv, hcl, hW, hsm.mono hc hs, hf⟩⟩
theorem vx_frame {U : State} {k n : Nat} (h : s.sameButNew ({ U with vm := s.vm } : State) locs k n) : s.heap.size ≤ U.heap.size ∧ ∀ q : Nat, q < s.heap.size → (∀ z ∈ locs, z.base ≠ q) → U.heap[q]? = s.heap[q]? := by
  obtain ⟨-, h2, -, -, -, h6⟩ := h
  refine ⟨h2, fun q hq hz => ?_⟩
  obtain ⟨c9, e1, e2, e3, e4⟩ := h6 q _ (Array.getElem?_eq_getElem hq)
  have hs : c9.slots = (s.heap[q]).slots := Array.ext_getElem? fun i => e4 i fun hm => hz _ hm rfl
  have h9 : c9 = s.heap[q] := by
    rw [hs] at e2
    exact e2
  have e5 : U.heap[q]? = some c9 := e1
  rw [e5, h9, Array.getElem?_eq_getElem hq]
/-- the words of a throw but the four that speak of the heap -/
def vx_no (w : Cond) : Bool := decide (w ≠ .isRef (.static Bundle.tN "UNASSIGNED_STACK" Bundle.steD)) && decide (w ≠ .isRef (.static Bundle.tN "SUPPRESSED_SENTINEL" Bundle.listD)) && decide (w ≠ .laysStatic Bundle.tN "UNASSIGNED_STACK" Bundle.steD) && decide (w ≠ .laysStatic Bundle.tN "SUPPRESSED_SENTINEL" Bundle.listD)
def vx_at0 (own : String) (ic : Nat) (X : String) (names : List String) : List Cond := (Bundle.ownAtoms0 own ic X names).filter vx_no
def vx_atS (own : String) (ic : Nat) (X : String) (names : List String) : List Cond := (Bundle.ownAtoms own ic X names).filter vx_no
/-- a word that the tables alone decide, or a good one -/
def vx_ot (w : Cond) : Bool := w.onTables || goodWord w
theorem vx_ot_at {args a' : Array Value} {s U : State} {w : Cond} (hW : s.WarmedH U.vm) (hvm : s.vm = U.vm) (hg : vx_ot w = true) (h : w.before args s = true) : w.before a' U = true := by
  simp only [vx_ot, Bool.or_eq_true] at hg
  rcases hg with hg | hg
  · exact va_tabs hg hvm h
  · exact word_at hW (good_of_word hg) h
/-- a list's words: the good ones out of the method's own list, the others by premises of their own -/
theorem vx_hat {args : Array Value} {s : State} {L B : List Cond} (h1 : ∀ w ∈ L.filter goodWord, w.before args s = true) (h2 : ∀ w ∈ L.filter (fun w => !goodWord w), w ∈ B) (h3 : ∀ w ∈ B, w.before args s = true) : ∀ w ∈ L, w.before args s = true := by
  intro w hw
  by_cases g : goodWord w = true
  · exact h1 w (List.mem_filter.mpr ⟨hw, g⟩)
  · refine h3 w (h2 w (List.mem_filter.mpr ⟨hw, ?_⟩))
    show (!goodWord w) = true
    cases hgw : goodWord w
    · rfl
    · exact absurd hgw g
theorem vx_c {args : Array Value} {s : State} {w : Cond} {B : List Cond} (h : w.before args s = true) (t : ∀ w ∈ B, w.before args s = true) : ∀ w' ∈ w :: B, w'.before args s = true := fun w' h' => (List.mem_cons.mp h').elim (fun e => by rw [e]; exact h) (t w')
theorem vx_n {args : Array Value} {s : State} : ∀ w ∈ ([] : List Cond), w.before args s = true := fun _ h => nomatch h
theorem vx_own {args : Array Value} {s : State} {L : List Cond} (h1 : ∀ w ∈ L.filter vx_no, w.before args s = true)
    (hU : (Cond.isRef (.static Bundle.tN "UNASSIGNED_STACK" Bundle.steD)).before args s = true) (hN : (Cond.isRef (.static Bundle.tN "SUPPRESSED_SENTINEL" Bundle.listD)).before args s = true)
    (lU : (Cond.laysStatic Bundle.tN "UNASSIGNED_STACK" Bundle.steD).before args s = true) (lN : (Cond.laysStatic Bundle.tN "SUPPRESSED_SENTINEL" Bundle.listD).before args s = true) : ∀ w ∈ L, w.before args s = true := by
  intro w hw
  by_cases e1 : w = .isRef (.static Bundle.tN "UNASSIGNED_STACK" Bundle.steD)
  · rw [e1]; exact hU
  · by_cases e2 : w = .isRef (.static Bundle.tN "SUPPRESSED_SENTINEL" Bundle.listD)
    · rw [e2]; exact hN
    · by_cases e3 : w = .laysStatic Bundle.tN "UNASSIGNED_STACK" Bundle.steD
      · rw [e3]; exact lU
      · by_cases e4 : w = .laysStatic Bundle.tN "SUPPRESSED_SENTINEL" Bundle.listD
        · rw [e4]; exact lN
        · exact h1 w (List.mem_filter.mpr ⟨hw, by unfold vx_no; rw [decide_eq_true e1, decide_eq_true e2, decide_eq_true e3, decide_eq_true e4]; rfl⟩)
/-- where a static field lies, its class's statics cell in H -/
def vx_L (C n d : String) (A : Nat → Prop) (U : State) (H : Heap) : Prop := ∃ (c : ClassId) (k : Class) (i : Nat) (f : Field) (a : Nat) (cell : Cell), U.vm.findClass C = some c ∧ U.fieldFound? C n d = some (c, k, i, f) ∧ f.isStatic = true ∧ k.statics = some a ∧ H[a]? = some cell ∧ cell.vm.isStatics = true ∧ cell.cls = c ∧ f.slot < cell.slots.size ∧ k.staticTypes[f.slot]? = some f.type ∧ ¬ A a
theorem vx_L.moved {C n d : String} {A : Nat → Prop} {u U : State} {H : Heap} (hvm : u.vm.Alike U.vm) (h : vx_L C n d A u H) : vx_L C n d A U H := by
  obtain ⟨c, k, i, f, a, cell, h1, h2, h3, h4, h5, h6, h7, h8, h9, h10⟩ := h
  obtain ⟨k', hi', he⟩ := State.fieldFound?_setVm hvm h2
  exact ⟨c, k', i, f, a, cell, by rw [hvm.findClass]; exact h1, hi', h3, by rw [he]; exact h4, h5, h6, h7, h8, by rw [he]; exact h9, h10⟩
theorem vx_L.kept {C n d : String} {A : Nat → Prop} {U : State} {H H1 : Heap} (h : vx_L C n d A U H) (hq : ∀ a : Nat, a < H.size → ¬ A a → H1[a]? = H[a]?) : vx_L C n d A U H1 := by
  obtain ⟨c, k, i, f, a, cell, h1, h2, h3, h4, h5, h6, h7, h8, h9, h10⟩ := h
  exact ⟨c, k, i, f, a, cell, h1, h2, h3, h4, by rw [hq a (Array.getElem?_eq_some_iff.mp h5).1 h10]; exact h5, h6, h7, h8, h9, h10⟩
theorem vx_L.narrow {C n d : String} {A B : Nat → Prop} {U : State} {H : Heap} (h : vx_L C n d A U H) (hAB : ∀ q, B q → A q) : vx_L C n d B U H := by
  obtain ⟨c, k, i, f, a, cell, h1, h2, h3, h4, h5, h6, h7, h8, h9, h10⟩ := h
  exact ⟨c, k, i, f, a, cell, h1, h2, h3, h4, h5, h6, h7, h8, h9, fun z => h10 (hAB _ z)⟩
theorem vx_L.word {C n d : String} {A : Nat → Prop} {s : State} {args : Array Value} (h : vx_L C n d A s s.heap) : (Cond.laysStatic C n d).before args s = true := by
  obtain ⟨c, k, i, f, a, cell, h1, h2, h3, h4, h5, h6, h7, h8, h9, -⟩ := h
  show (Cond.laysStatic C n d).holds args s none s [] = true
  exact Cond.laysStatic_of h1 h2 h3 h4 h5 h6 h7 h8 h9
/-- .. and what it holds: null or some reference -/
def vx_Zq (C n d : String) (A : Nat → Prop) (U : State) (H : Heap) : Prop := va_Zq C n d A U H ∧ vx_L C n d A U H
theorem vx_Zq.moved {C n d : String} {A : Nat → Prop} {u U : State} {H : Heap} (hvm : u.vm.Alike U.vm) (h : vx_Zq C n d A u H) : vx_Zq C n d A U H := ⟨va_Zq.moved hvm h.1, vx_L.moved hvm h.2⟩
theorem vx_Zq.kept {C n d : String} {A : Nat → Prop} {U : State} {H H1 : Heap} (h : vx_Zq C n d A U H) (hq : ∀ a : Nat, a < H.size → ¬ A a → H1[a]? = H[a]?) : vx_Zq C n d A U H1 := ⟨va_Zq.kept h.1 hq, vx_L.kept h.2 hq⟩
theorem vx_Zq.narrow {C n d : String} {A B : Nat → Prop} {U : State} {H : Heap} (h : vx_Zq C n d A U H) (hAB : ∀ q, B q → A q) : vx_Zq C n d B U H := ⟨va_Zq.narrow h.1 hAB, vx_L.narrow h.2 hAB⟩
theorem vx_Zqof {args : Array Value} {s : State} {C n d : String} {A : Nat → Prop} (hl : (Cond.laysStatic C n d).before args s = true) (hini : (Cond.initialized C).before args s = true) (h : (Cond.isRef (.static C n d)).before args s = true) (hA : ∀ a : Nat, a < s.heap.size → ¬ A a) : vx_Zq C n d A s s.heap := by
  refine ⟨va_Zqof hl hini h hA, ?_⟩
  obtain ⟨c, k, i, f, a, cell, h1, h2, h3, h4, h5, h6, h7, h8, h9⟩ := Cond.laysStatic_spec hl
  exact ⟨c, k, i, f, a, cell, h1, h2, h3, h4, h5, h6, h7, h8, h9, hA a (Array.getElem?_eq_some_iff.mp h5).1⟩
theorem vx_isRef {C n d : String} {v : Value} {A : Nat → Prop} {s : State} {args : Array Value} (h : va_Z C n d v A s s.heap) (hv : v.isRef = true) : (Cond.isRef (.static C n d)).before args s = true := by
  obtain ⟨cf, kf, fi, f, a, cell, h1, h2, h3, h4, h5, h6, h7, -⟩ := h
  have he : (Term.static C n d).eval args s none [] s = some v := by
    simp [Term.eval, State.fieldNamed?, h1, h2, h4, h5, h6, h7]
  simp only [Cond.before, Cond.holds, Cond.value, he]
  cases v <;> simp_all [Value.isRef]
theorem vx_isRefq {C n d : String} {A : Nat → Prop} {s : State} {args : Array Value} (h : va_Zq C n d A s s.heap) : (Cond.isRef (.static C n d)).before args s = true := by
  rcases h with h | ⟨t, h⟩
  · exact vx_isRef h rfl
  · exact vx_isRef h rfl
/-- the same frame, seen from here: as if the method were called anew in this heap -/
theorem vx_rebase {T : State} (X : Stand p l e R s m args below meth c T locs cells slots) {R' : Room} (hf : R'.frames ≤ R.frames) (hl : R'.locals ≤ R.locals) (hc : cells + R'.cells ≤ R.cells) (hs : slots + R'.slots ≤ R.slots) :
    Stand p l e R' ((T.setVm s.vm).setFrames (.invoking m args :: below)) m args below meth c T [] 0 0 := by
  have htop : (T.setVm s.vm).topJava?.isSome := X.here.top
  have hF : ((T.setVm s.vm).setFrames (.invoking m args :: below)).frames = .invoking m args :: below := State.frames_setFrames _ (State.cur_lt_of_top htop)
  obtain ⟨g₀, hg0⟩ := Option.isSome_iff_exists.mp htop
  obtain ⟨r, hr⟩ := State.topJava?_eq_some.mp hg0
  have hl9 : e.platform.stackLimits (T.setVm s.vm).me = e.platform.stackLimits s.me := X.limits
  have hb9 : (T.setVm s.vm).me.stackBytes = s.me.stackBytes := X.bytes
  refine ⟨X.admits, X.cas, X.clock, hF, ?_, X.hears, X.method, X.code, X.here, X.tail, X.warmed, ?_, ?_, ?_⟩
  · have h := X.room
    have hU : ((T.setVm s.vm).setFrames (.invoking m args :: below)).localsInUse = s.localsInUse := by
      rw [State.localsInUse_invoking hF (meth := meth) (c := c) X.method X.code, State.localsInUse_invoking X.frames X.method X.code]
    simp only [State.hasRoom, Bool.and_eq_true, decide_eq_true_eq] at h ⊢
    obtain ⟨⟨⟨⟨h1, h2, h3, h4, h5, h6⟩, h7⟩, h8⟩, h9⟩ := h
    rw [X.frames, List.length_cons] at h2 h3
    have q1 := X.heapSize
    have q2 := X.used
    simp only [hF, hU, List.length_cons, State.stackLimits_setFrames, State.stackBytes_setFrames, hl9, hb9]
    refine ⟨⟨⟨⟨by omega, by omega, by omega, by omega, by omega, h6⟩, ?_⟩, ?_⟩, X.book⟩
    · show T.heap.size + R'.cells ≤ e.platform.maxCells
      omega
    · show T.slotsUsed + R'.slots ≤ e.platform.maxSlots
      omega
  · rw [State.stackLimits_setFrames]; rfl
  · rw [State.stackBytes_setFrames]; rfl
  · refine ⟨?_, Nat.le_refl _, Nat.le_refl _, ?_, ?_, fun a c9 h9 => ⟨c9, h9, rfl, rfl, fun _ _ => rfl⟩⟩
    · obtain ⟨t, ht, -⟩ := State.frames_cons hr
      show T.setVm s.vm = { ((T.setVm s.vm).setFrames (.invoking m args :: below)).setFrames (T.setVm s.vm).frames with heap := T.heap, slotsUsed := T.slotsUsed }
      rw [State.setFrames_setFrames, State.setFrames_self ht]
      rfl
    · show T.slotsUsed = T.slotsUsed + ((T.heap.toList.drop T.heap.size).map (·.slots.size)).sum
      rw [List.drop_eq_nil_of_le (Nat.le_of_eq Array.length_toList)]
      rfl
    · show ((T.heap.toList.drop T.heap.size).map (·.slots.size)).sum ≤ 0
      rw [List.drop_eq_nil_of_le (Nat.le_of_eq Array.length_toList)]
      exact Nat.le_refl _
/-- 'throw new E()': new; dup; invokespecial; athrow -/
theorem vx_throw0 {cc : ByteArray} {pc : Nat} (hexec : p.tables.exec = Jvm.exec) (hb : c.code = cc) (hl : l.stackTraces = false) {own cls : String} {names : List String} {ik ic mc ms : Nat} {A : Nat → Prop}
    (hown : s.vm.findClass own = some m.cls) (hcls : Bundle.fit cls = true) (hnames : ∀ n ∈ names, Bundle.fit n = true)
    (hk : (Cond.classLink own ik cls).before args s = true) (hini : (Cond.initialized cls).before args s = true) (hat : ∀ w ∈ vx_at0 own ic cls names, w.before args s = true)
    (hgood : ∀ w ∈ Cond.classLink own ik cls :: Cond.initialized cls :: vx_at0 own ic cls names, vx_ot w = true)
    (hU : vx_Zq Bundle.tN "UNASSIGNED_STACK" Bundle.steD A s s.heap) (hN : vx_Zq Bundle.tN "SUPPRESSED_SENTINEL" Bundle.listD A s s.heap) (hS : va_S A s.heap H locs) (hsize : ls.size = c.maxLocals)
    (d0 : decode cc pc = .ok (.new ik, 3)) (d3 : decode cc (pc + 3) = .ok (.dup, 1)) (d4 : decode cc (pc + 4) = .ok (.invokespecial ic, 3)) (d7 : decode cc (pc + 7) = .ok (.athrow, 1))
    (hout : ∀ x ∈ c.exceptionTable.toList, covers x (pc + 7) = false)
    (hRframes : names.length + 3 < R.frames) (hRlocals : (rest.map fun v => v.category).sum + (13 * (names.length + 1) + 42) ≤ R.locals) (hRcells : cells + 1 ≤ R.cells) (hRslots : slots + 6 ≤ R.slots) (hlocks : meth.locks = false)
    (hx : ∀ t : State, s.vm.Alike t.vm → H.size ≤ t.heap.size → (∀ q : Nat, q < H.size → t.heap[q]? = H[q]?) → XC cls s t)
    (hf : ∀ z ∈ locs, free z.base) (hc : cells + 1 ≤ mc) (hs : slots + 6 ≤ ms) :
    W p l e R s m args below meth c H locs cells slots (vx_MQ below Qc XC args s mc ms free) (F0 m pc ls rest) := by
  intro T hT X
  have htr : e.platform.stackTraces = false := (show e.platform.stackTraces = l.stackTraces by rw [X.admits.platform]).trans hl
  have Y := vx_rebase X (R' := { frames := R.frames, locals := R.locals, cells := 1, slots := 6 }) (Nat.le_refl _) (Nat.le_refl _) hRcells hRslots
  obtain ⟨s', hA⟩ : ∃ z, z = (T.setVm s.vm).setFrames (.invoking m args :: below) := ⟨_, rfl⟩
  rw [← hA] at Y
  have hvm : s'.vm = s.vm := by rw [hA]; rfl
  have hhp : s'.heap = H := by rw [hA]; exact hT
  have hW0 : s.WarmedH s'.vm := by rw [hvm]; exact State.WarmedH.refl s
  have hat' : ∀ w ∈ vx_at0 own ic cls names, w.before args s' = true := fun w hw => vx_ot_at hW0 hvm.symm (hgood w (List.mem_cons_of_mem _ (List.mem_cons_of_mem _ hw))) (hat w hw)
  have hk' : (Cond.classLink own ik cls).before args s' = true := vx_ot_at hW0 hvm.symm (hgood _ List.mem_cons_self) hk
  have hini' : (Cond.initialized cls).before args s' = true := vx_ot_at hW0 hvm.symm (hgood _ (List.mem_cons_of_mem _ List.mem_cons_self)) hini
  have hU' : vx_Zq Bundle.tN "UNASSIGNED_STACK" Bundle.steD A s' s'.heap := by rw [hhp]; exact vx_Zq.moved hW0.alike (hU.kept hS.2.1)
  have hN' : vx_Zq Bundle.tN "SUPPRESSED_SENTINEL" Bundle.listD A s' s'.heap := by rw [hhp]; exact vx_Zq.moved hW0.alike (hN.kept hS.2.1)
  have h : ∀ w ∈ Bundle.ownAtoms0 own ic cls names, w.before args s' = true := vx_own hat' (vx_isRefq hU'.1) (vx_isRefq hN'.1) hU'.2.word hN'.2.word
  have hown' : s'.vm.findClass own = some m.cls := by rw [hvm]; exact hown
  have hins : (Cond.instantiable cls 6).before args s' = true := h _ (by simp [Bundle.ownAtoms0])
  obtain ⟨vm₁, cX, kX, hfX, hkX, -, -, X₁, st1⟩ := Y.newCold hexec (own := own) (C := cls) (index := ik) (n := 6) hown' hk' hins hini'
    (g := F0 m pc ls rest) rfl (by rw [hb]; exact d0) (Nat.le_refl _) (Nat.le_refl _)
  generalize hT1 : (T.setVm vm₁).pushCell { cls := cX, slots := kX.instanceTypes.map defaultValue, vm := .none } = T1 at X₁ st1
  have hcat : (Value.ref T.heap.size).category = 1 := rfl
  have hcellA : T1.heap[T.heap.size]? = some (freshCell cX kX) := by rw [← hT1]; exact State.heap_pushCell_size _ _
  have d3' : decode c.code (pc + 3) = .ok (.dup, 1) := by rw [hb]; exact d3
  obtain ⟨U, hsteps, hrun, hend, hW, hsame, ce, hce, hO⟩ := X₁.ctorThrow0 hexec htr (own := own) (cls := cls) (names := names) (ic := ic) hown' hcls hnames h (fun x hx => nomatch hx) hfX hkX hcellA (by rw [hhp, hT]; exact Nat.le_refl _)
    (g := { method := m, pc := pc + 4, locals := ls, stack := .ref T.heap.size :: .ref T.heap.size :: rest, locked := none }) rfl hsize rfl rfl (rest := rest) rfl
    (by rw [hb]; exact d4) (by rw [hb]; exact d7) hout hRframes (by simp only [List.map_cons, List.sum_cons, hcat]; omega) hlocks
  obtain ⟨f1, f2⟩ := vx_frame hsame
  rw [hhp] at f1 f2
  have hWs : s.WarmedH U.vm := State.WarmedH.trans hW0 hW
  have hcl : s.vm.findClass cls = some ce.cls := by
    have h9 := hO.cls
    rw [hvm] at h9
    exact h9
  have hall : s.sameButNew ({ U with vm := s.vm } : State) locs mc ms := by
    subst hA
    obtain ⟨e1, e2⟩ := hsame
    rw [State.setFrames_setFrames] at e1
    have h2 : (T.setVm s.vm).sameButNew ({ U with vm := s.vm } : State) [] (0 + 1) (0 + 6) := ⟨e1, e2⟩
    have h3 := X.same.trans h2
    rw [List.append_nil] at h3
    exact h3.mono hc hs
  refine ⟨U, ?_, .threw T.heap.size, hrun, hend, Or.inr ⟨T.heap.size, rfl, cls, ce, locs, hx U hWs.alike f1 (fun q hq => f2 q hq (fun z hz => nomatch hz)), hce, hO.vm, hcl, hWs, hall, hf⟩⟩
  refine st1 _ ?_
  show Steps p.tables e below (T1.setTop { method := m, pc := pc + 3, locals := ls, stack := .ref T.heap.size :: rest, locked := none }) _
  jvm_step X₁.here [X₁.here.top, hexec, d3', Value.category]
  exact hsteps
/-- 'throw new E("text")': new; dup; ldc; invokespecial; athrow -/
theorem vx_throwS {cc : ByteArray} {pc : Nat} (hexec : p.tables.exec = Jvm.exec) (hb : c.code = cc) (hl : l.stackTraces = false) {own cls text : String} {names : List String} {ik is ic mc ms sa : Nat} {A : Nat → Prop}
    (hown : s.vm.findClass own = some m.cls) (hcls : Bundle.fit cls = true) (hnames : ∀ n ∈ names, Bundle.fit n = true)
    (hk : (Cond.classLink own ik cls).before args s = true) (hini : (Cond.initialized cls).before args s = true) (hstr : vk_R own is text sa s) (hat : ∀ w ∈ vx_atS own ic cls names, w.before args s = true)
    (hgood : ∀ w ∈ Cond.classLink own ik cls :: Cond.initialized cls :: vx_atS own ic cls names, vx_ot w = true)
    (hU : vx_Zq Bundle.tN "UNASSIGNED_STACK" Bundle.steD A s s.heap) (hN : vx_Zq Bundle.tN "SUPPRESSED_SENTINEL" Bundle.listD A s s.heap) (hS : va_S A s.heap H locs) (hsize : ls.size = c.maxLocals)
    (d0 : decode cc pc = .ok (.new ik, 3)) (d3 : decode cc (pc + 3) = .ok (.dup, 1)) (d4 : decode cc (pc + 4) = .ok (.ldc is, 2)) (d6 : decode cc (pc + 6) = .ok (.invokespecial ic, 3)) (d9 : decode cc (pc + 9) = .ok (.athrow, 1))
    (hout : ∀ x ∈ c.exceptionTable.toList, covers x (pc + 9) = false)
    (hRframes : names.length + 3 < R.frames) (hRlocals : (rest.map fun v => v.category).sum + (13 * (names.length + 1) + 43) ≤ R.locals) (hRcells : cells + 1 ≤ R.cells) (hRslots : slots + 6 ≤ R.slots) (hlocks : meth.locks = false)
    (hx : ∀ t : State, s.vm.Alike t.vm → H.size ≤ t.heap.size → (∀ q : Nat, q < H.size → t.heap[q]? = H[q]?) → XC cls s t)
    (hf : ∀ z ∈ locs, free z.base) (hc : cells + 1 ≤ mc) (hs : slots + 6 ≤ ms) :
    W p l e R s m args below meth c H locs cells slots (vx_MQ below Qc XC args s mc ms free) (F0 m pc ls rest) := by
  intro T hT X
  have htr : e.platform.stackTraces = false := (show e.platform.stackTraces = l.stackTraces by rw [X.admits.platform]).trans hl
  have Y := vx_rebase X (R' := { frames := R.frames, locals := R.locals, cells := 1, slots := 6 }) (Nat.le_refl _) (Nat.le_refl _) hRcells hRslots
  obtain ⟨s', hA⟩ : ∃ z, z = (T.setVm s.vm).setFrames (.invoking m args :: below) := ⟨_, rfl⟩
  rw [← hA] at Y
  have hvm : s'.vm = s.vm := by rw [hA]; rfl
  have hhp : s'.heap = H := by rw [hA]; exact hT
  have hW0 : s.WarmedH s'.vm := by rw [hvm]; exact State.WarmedH.refl s
  have hat' : ∀ w ∈ vx_atS own ic cls names, w.before args s' = true := fun w hw => vx_ot_at hW0 hvm.symm (hgood w (List.mem_cons_of_mem _ (List.mem_cons_of_mem _ hw))) (hat w hw)
  have hk' : (Cond.classLink own ik cls).before args s' = true := vx_ot_at hW0 hvm.symm (hgood _ List.mem_cons_self) hk
  have hini' : (Cond.initialized cls).before args s' = true := vx_ot_at hW0 hvm.symm (hgood _ (List.mem_cons_of_mem _ List.mem_cons_self)) hini
  have hU' : vx_Zq Bundle.tN "UNASSIGNED_STACK" Bundle.steD A s' s'.heap := by rw [hhp]; exact vx_Zq.moved hW0.alike (hU.kept hS.2.1)
  have hN' : vx_Zq Bundle.tN "SUPPRESSED_SENTINEL" Bundle.listD A s' s'.heap := by rw [hhp]; exact vx_Zq.moved hW0.alike (hN.kept hS.2.1)
  have h : ∀ w ∈ Bundle.ownAtoms own ic cls names, w.before args s' = true := vx_own hat' (vx_isRefq hU'.1) (vx_isRefq hN'.1) hU'.2.word hN'.2.word
  have hown' : s'.vm.findClass own = some m.cls := by rw [hvm]; exact hown
  have hins : (Cond.instantiable cls 6).before args s' = true := h _ (by simp [Bundle.ownAtoms])
  obtain ⟨vm₁, cX, kX, hfX, hkX, -, -, X₁, st1⟩ := Y.newCold hexec (own := own) (C := cls) (index := ik) (n := 6) hown' hk' hins hini'
    (g := F0 m pc ls rest) rfl (by rw [hb]; exact d0) (Nat.le_refl _) (Nat.le_refl _)
  generalize hT1 : (T.setVm vm₁).pushCell { cls := cX, slots := kX.instanceTypes.map defaultValue, vm := .none } = T1 at X₁ st1
  have hcat : (Value.ref T.heap.size).category = 1 := rfl
  have hcellA : T1.heap[T.heap.size]? = some (freshCell cX kX) := by rw [← hT1]; exact State.heap_pushCell_size _ _
  have d3' : decode c.code (pc + 3) = .ok (.dup, 1) := by rw [hb]; exact d3
  have d4' : decode c.code (pc + 4) = .ok (.ldc is, 2) := by rw [hb]; exact d4
  have hstr' : vk_R own is text sa s' := vk_R.warm hW0 hstr
  obtain ⟨U, hsteps, hrun, hend, hW, hsame, ce, hce, hO⟩ := X₁.ctorThrowS hexec htr (own := own) (cls := cls) (names := names) (ic := ic) hown' hcls hnames h (fun x hx => nomatch hx) hfX hkX hcellA (by rw [hhp, hT]; exact Nat.le_refl _) (msg := .ref sa) rfl
    (g := { method := m, pc := pc + 6, locals := ls, stack := .ref sa :: .ref T.heap.size :: .ref T.heap.size :: rest, locked := none }) rfl hsize rfl rfl (rest := rest) rfl
    (by rw [hb]; exact d6) (by rw [hb]; exact d9) hout hRframes (by simp only [List.map_cons, List.sum_cons, hcat]; omega) hlocks
  obtain ⟨f1, f2⟩ := vx_frame hsame
  rw [hhp] at f1 f2
  have hWs : s.WarmedH U.vm := State.WarmedH.trans hW0 hW
  have hcl : s.vm.findClass cls = some ce.cls := by
    have h9 := hO.cls
    rw [hvm] at h9
    exact h9
  have hall : s.sameButNew ({ U with vm := s.vm } : State) locs mc ms := by
    subst hA
    obtain ⟨e1, e2⟩ := hsame
    rw [State.setFrames_setFrames] at e1
    have h2 : (T.setVm s.vm).sameButNew ({ U with vm := s.vm } : State) [] (0 + 1) (0 + 6) := ⟨e1, e2⟩
    have h3 := X.same.trans h2
    rw [List.append_nil] at h3
    exact h3.mono hc hs
  refine ⟨U, ?_, .threw T.heap.size, hrun, hend, Or.inr ⟨T.heap.size, rfl, cls, ce, locs, hx U hWs.alike f1 (fun q hq => f2 q hq (fun z hz => nomatch hz)), hce, hO.vm, hcl, hWs, hall, hf⟩⟩
  refine st1 _ ?_
  show Steps p.tables e below (T1.setTop { method := m, pc := pc + 3, locals := ls, stack := .ref T.heap.size :: rest, locked := none }) _
  jvm_step X₁.here [X₁.here.top, hexec, d3', Value.category]
  exact X₁.ldcString hexec (own := own) (text := text) (index := is) (a := sa) hown' hstr'.1 hstr'.2
    (g := { method := m, pc := pc + 4, locals := ls, stack := .ref T.heap.size :: .ref T.heap.size :: rest, locked := none }) rfl d4' _ hsteps
/-- 'throw new E("text")', the text by a wide index -/
theorem vx_throwSW {cc : ByteArray} {pc : Nat} (hexec : p.tables.exec = Jvm.exec) (hb : c.code = cc) (hl : l.stackTraces = false) {own cls text : String} {names : List String} {ik is ic mc ms sa : Nat} {A : Nat → Prop}
    (hown : s.vm.findClass own = some m.cls) (hcls : Bundle.fit cls = true) (hnames : ∀ n ∈ names, Bundle.fit n = true)
    (hk : (Cond.classLink own ik cls).before args s = true) (hini : (Cond.initialized cls).before args s = true) (hstr : vk_R own is text sa s) (hat : ∀ w ∈ vx_atS own ic cls names, w.before args s = true)
    (hgood : ∀ w ∈ Cond.classLink own ik cls :: Cond.initialized cls :: vx_atS own ic cls names, vx_ot w = true)
    (hU : vx_Zq Bundle.tN "UNASSIGNED_STACK" Bundle.steD A s s.heap) (hN : vx_Zq Bundle.tN "SUPPRESSED_SENTINEL" Bundle.listD A s s.heap) (hS : va_S A s.heap H locs) (hsize : ls.size = c.maxLocals)
    (d0 : decode cc pc = .ok (.new ik, 3)) (d3 : decode cc (pc + 3) = .ok (.dup, 1)) (d4 : decode cc (pc + 4) = .ok (.ldc_w is, 3)) (d7 : decode cc (pc + 7) = .ok (.invokespecial ic, 3)) (d10 : decode cc (pc + 10) = .ok (.athrow, 1))
    (hout : ∀ x ∈ c.exceptionTable.toList, covers x (pc + 10) = false)
    (hRframes : names.length + 3 < R.frames) (hRlocals : (rest.map fun v => v.category).sum + (13 * (names.length + 1) + 43) ≤ R.locals) (hRcells : cells + 1 ≤ R.cells) (hRslots : slots + 6 ≤ R.slots) (hlocks : meth.locks = false)
    (hx : ∀ t : State, s.vm.Alike t.vm → H.size ≤ t.heap.size → (∀ q : Nat, q < H.size → t.heap[q]? = H[q]?) → XC cls s t)
    (hf : ∀ z ∈ locs, free z.base) (hc : cells + 1 ≤ mc) (hs : slots + 6 ≤ ms) :
    W p l e R s m args below meth c H locs cells slots (vx_MQ below Qc XC args s mc ms free) (F0 m pc ls rest) := by
  intro T hT X
  have htr : e.platform.stackTraces = false := (show e.platform.stackTraces = l.stackTraces by rw [X.admits.platform]).trans hl
  have Y := vx_rebase X (R' := { frames := R.frames, locals := R.locals, cells := 1, slots := 6 }) (Nat.le_refl _) (Nat.le_refl _) hRcells hRslots
  obtain ⟨s', hA⟩ : ∃ z, z = (T.setVm s.vm).setFrames (.invoking m args :: below) := ⟨_, rfl⟩
  rw [← hA] at Y
  have hvm : s'.vm = s.vm := by rw [hA]; rfl
  have hhp : s'.heap = H := by rw [hA]; exact hT
  have hW0 : s.WarmedH s'.vm := by rw [hvm]; exact State.WarmedH.refl s
  have hat' : ∀ w ∈ vx_atS own ic cls names, w.before args s' = true := fun w hw => vx_ot_at hW0 hvm.symm (hgood w (List.mem_cons_of_mem _ (List.mem_cons_of_mem _ hw))) (hat w hw)
  have hk' : (Cond.classLink own ik cls).before args s' = true := vx_ot_at hW0 hvm.symm (hgood _ List.mem_cons_self) hk
  have hini' : (Cond.initialized cls).before args s' = true := vx_ot_at hW0 hvm.symm (hgood _ (List.mem_cons_of_mem _ List.mem_cons_self)) hini
  have hU' : vx_Zq Bundle.tN "UNASSIGNED_STACK" Bundle.steD A s' s'.heap := by rw [hhp]; exact vx_Zq.moved hW0.alike (hU.kept hS.2.1)
  have hN' : vx_Zq Bundle.tN "SUPPRESSED_SENTINEL" Bundle.listD A s' s'.heap := by rw [hhp]; exact vx_Zq.moved hW0.alike (hN.kept hS.2.1)
  have h : ∀ w ∈ Bundle.ownAtoms own ic cls names, w.before args s' = true := vx_own hat' (vx_isRefq hU'.1) (vx_isRefq hN'.1) hU'.2.word hN'.2.word
  have hown' : s'.vm.findClass own = some m.cls := by rw [hvm]; exact hown
  have hins : (Cond.instantiable cls 6).before args s' = true := h _ (by simp [Bundle.ownAtoms])
  obtain ⟨vm₁, cX, kX, hfX, hkX, -, -, X₁, st1⟩ := Y.newCold hexec (own := own) (C := cls) (index := ik) (n := 6) hown' hk' hins hini'
    (g := F0 m pc ls rest) rfl (by rw [hb]; exact d0) (Nat.le_refl _) (Nat.le_refl _)
  generalize hT1 : (T.setVm vm₁).pushCell { cls := cX, slots := kX.instanceTypes.map defaultValue, vm := .none } = T1 at X₁ st1
  have hcat : (Value.ref T.heap.size).category = 1 := rfl
  have hcellA : T1.heap[T.heap.size]? = some (freshCell cX kX) := by rw [← hT1]; exact State.heap_pushCell_size _ _
  have d3' : decode c.code (pc + 3) = .ok (.dup, 1) := by rw [hb]; exact d3
  have d4' : decode c.code (pc + 4) = .ok (.ldc_w is, 3) := by rw [hb]; exact d4
  have hstr' : vk_R own is text sa s' := vk_R.warm hW0 hstr
  obtain ⟨U, hsteps, hrun, hend, hW, hsame, ce, hce, hO⟩ := X₁.ctorThrowS hexec htr (own := own) (cls := cls) (names := names) (ic := ic) hown' hcls hnames h (fun x hx => nomatch hx) hfX hkX hcellA (by rw [hhp, hT]; exact Nat.le_refl _) (msg := .ref sa) rfl
    (g := { method := m, pc := pc + 7, locals := ls, stack := .ref sa :: .ref T.heap.size :: .ref T.heap.size :: rest, locked := none }) rfl hsize rfl rfl (rest := rest) rfl
    (by rw [hb]; exact d7) (by rw [hb]; exact d10) hout hRframes (by simp only [List.map_cons, List.sum_cons, hcat]; omega) hlocks
  obtain ⟨f1, f2⟩ := vx_frame hsame
  rw [hhp] at f1 f2
  have hWs : s.WarmedH U.vm := State.WarmedH.trans hW0 hW
  have hcl : s.vm.findClass cls = some ce.cls := by
    have h9 := hO.cls
    rw [hvm] at h9
    exact h9
  have hall : s.sameButNew ({ U with vm := s.vm } : State) locs mc ms := by
    subst hA
    obtain ⟨e1, e2⟩ := hsame
    rw [State.setFrames_setFrames] at e1
    have h2 : (T.setVm s.vm).sameButNew ({ U with vm := s.vm } : State) [] (0 + 1) (0 + 6) := ⟨e1, e2⟩
    have h3 := X.same.trans h2
    rw [List.append_nil] at h3
    exact h3.mono hc hs
  refine ⟨U, ?_, .threw T.heap.size, hrun, hend, Or.inr ⟨T.heap.size, rfl, cls, ce, locs, hx U hWs.alike f1 (fun q hq => f2 q hq (fun z hz => nomatch hz)), hce, hO.vm, hcl, hWs, hall, hf⟩⟩
  refine st1 _ ?_
  show Steps p.tables e below (T1.setTop { method := m, pc := pc + 3, locals := ls, stack := .ref T.heap.size :: rest, locked := none }) _
  jvm_step X₁.here [X₁.here.top, hexec, d3', Value.category]
  exact X₁.ldcStringW hexec (own := own) (text := text) (index := is) (a := sa) hown' hstr'.1 hstr'.2
    (g := { method := m, pc := pc + 4, locals := ls, stack := .ref T.heap.size :: .ref T.heap.size :: rest, locked := none }) rfl d4' _ hsteps
end Ends
section Bodies
variable {l : Launch}
theorem vx_ofW {y : MethodName} {ws ws' : List Cond} {rm : Room} {Pc : Array Value → State → Prop} {Qc : Array Value → State → Outcome → State → Prop} {XC : String → State → State → Prop} {mc ms : Nat} {free : Addr → Prop} {cc : ByteArray} {maxL : Nat} {ret : Option FieldType}
    (hy : plainName y.cls = true) (hw : ws = Cond.code y cc maxL ret :: ws')
    (body : ∀ p e s m args below meth c s₁, BodyLoose p l y (headSpec ws rm) cc maxL ret e s m args below meth c s₁ → c.maxLocals = maxL → (∀ x ∈ c.exceptionTable.toList, False) → Pc args s →
      W p l e (headSpec ws rm).room s m args below meth c s.heap [] 0 0 (vx_MQ below Qc XC args s mc ms free) (entryFrame m args maxL)) : vx_Met l y ws rm Pc Qc XC mc ms free := by
  refine MetFree.of_bodyS (code := cc) (maxLocals := maxL) (ret := ret) hy ?_ ?_
  · intro args s m h hn
    obtain ⟨meth, c, h1, h2, h3, h4, h5, h6, -, -⟩ := Cond.code_spec hn (atoms_spec (ws := ws) h _ (by rw [hw]; exact List.mem_cons_self))
    exact ⟨meth, c, h1, h2, h3, h4, h5, h6⟩
  · intro p e s m args below meth c s₁ B hml hP _
    have hh0 : s₁.heap = s.heap := by rw [B.state]; rfl
    have ht : ∀ x ∈ c.exceptionTable.toList, False := by
      obtain ⟨meth9, c9, h1, h2, -, -, -, -, h7, -⟩ := Cond.code_spec B.named (atoms_spec (ws := ws) B.pre _ (by rw [hw]; exact List.mem_cons_self))
      cases Option.some.inj (h1.symm.trans B.method)
      cases Option.some.inj (h2.symm.trans (Stand.of_body B).code)
      intro x hx
      rw [Array.isEmpty_iff.mp h7] at hx
      cases hx
    obtain ⟨t, a1, o, b1, b2, b3⟩ := body p e s m args below meth c s₁ B hml ht hP s₁ hh0 (Stand.of_body B)
    exact ⟨t, o, a1, b1, b2, b3⟩
/-- the table of a body with handlers -/
theorem vx_table {p : Program} {x y : MethodName} {S : Spec} {cc bytes : ByteArray} {maxL maxL' : Nat} {ret ret' : Option FieldType} {e : Env} {s s₁ : State} {m : MethodId} {args : Array Value} {below : List Frame} {meth : Method} {c : Code} {hh : List (Nat × Nat × Nat × Nat)}
    (B : BodyLoose p l y S cc maxL ret e s m args below meth c s₁) (h : (Cond.codeWith y bytes maxL' ret' hh).before args s = true) : c.exceptionTable.toList = tableOf hh := by
  obtain ⟨m9, meth9, c9, hn9, h1, h2, -, -, h6, -⟩ := Cond.codeWith_spec h
  cases Option.some.inj (hn9.symm.trans B.named)
  cases Option.some.inj (h1.symm.trans B.method)
  cases Option.some.inj (h2.symm.trans (Stand.of_body B).code)
  rw [← h6, table_eq]
end Bodies
end VXA
/-! ===== END ===== -/
/-! ===== BEGIN a static call of a method with an exception table ===== -/
section VXS
variable {p : Program} {l : Launch} {e : Env} {R : Room} {s : State} {m : MethodId} {args : Array Value} {below : List Frame} {meth : Method} {c : Code} {T : State} {H : Heap} {locs : List Loc} {cells slots : Nat}
abbrev vx_CSW (R : Room) (s : State) (args : Array Value) (own : String) (index : Nat) (y : MethodName) (bytes : ByteArray) (maxL : Nat) (ret : Option FieldType) (hh : List (Nat × Nat × Nat × Nat)) (ws : List Cond) (rm : Room) (mc ms n : Nat) : Prop :=
  (rm.cells = mc ∧ rm.slots = ms ∧ rm.frames + 1 ≤ R.frames ∧ 8 + (maxL + 11) + rm.locals ≤ R.locals ∧ (∀ w ∈ ws, ∀ (a' : Array Value) (U : State), s.WarmedH U.vm → w.before a' U = true) ∧ Cond.codeWith y bytes maxL ret hh ∈ ws) ∧
  (Cond.codeWith y bytes maxL ret hh).before args s = true ∧ (Cond.initialized y.cls).before args s = true ∧ (y.cls ≠ "java/lang/invoke/MethodHandle" ∧ y.cls ≠ "java/lang/invoke/VarHandle") ∧
  (∀ sig, parseMethodDescriptor y.desc = some sig → n = sig.parameters.length) ∧ (Cond.methodLink own index y).before args s = true ∧ (Cond.static y).before args s = true
theorem vx_cwSW {own : String} {index maxL mc ms : Nat} {y : MethodName} {bytes : ByteArray} {ret : Option FieldType} {hh : List (Nat × Nat × Nat × Nat)} {Ts ws ws' : List Cond} {rm : Room} (n : Nat) (ht : ∀ w ∈ Ts, w.before args s = true) (hT : GoodIn Ts (va_wsS own index y ws)) (hw : ws = Cond.codeWith y bytes maxL ret hh :: ws') (hrc : rm.cells = mc) (hrs : rm.slots = ms)
    (hd : y.cls ≠ "java/lang/invoke/MethodHandle" ∧ y.cls ≠ "java/lang/invoke/VarHandle" ∧ (parseMethodDescriptor y.desc).map (fun d => d.parameters.length) = some n) (hR : rm.frames + 1 ≤ R.frames ∧ 8 + (maxL + 11) + rm.locals ≤ R.locals) :
    vx_CSW R s args own index y bytes maxL ret hh ws rm mc ms n := by
  have ok : ∀ w ∈ va_wsS own index y ws, w.before args s = true := fun w h => ht w (hT w h).1
  have hG : GoodIn Ts ws := fun w h => hT w (by unfold va_wsS; exact List.mem_append_right _ h)
  have hc : Cond.codeWith y bytes maxL ret hh ∈ ws := by rw [hw]; exact List.mem_cons_self
  refine ⟨⟨hrc, hrs, hR.1, hR.2, pay_in ht hG, hc⟩, ht _ (hG _ hc).1, ok _ (by simp [va_wsS]), ⟨hd.1, hd.2.1⟩, fun sig h => ?_, ok _ (by simp [va_wsS]), ok _ (by simp [va_wsS])⟩
  have h2 := hd.2.2
  rw [h] at h2
  exact (Option.some.inj h2).symm
theorem vx_callSW (X : Stand p l e R s m args below meth c T locs cells slots) (hexec : p.tables.exec = Jvm.exec) {own : String} {index : Nat} {y : MethodName} {bytes : ByteArray} {maxL : Nat} {ret : Option FieldType} {hh : List (Nat × Nat × Nat × Nat)}
    (hown : s.vm.findClass own = some m.cls) (hlink : (Cond.methodLink own index y).before args s = true) (hstat : (Cond.static y).before args s = true) (hinit : (Cond.initialized y.cls).before args s = true)
    (hcode : (Cond.codeWith y bytes maxL ret hh).before args s = true) (hy : y.cls ≠ "java/lang/invoke/MethodHandle" ∧ y.cls ≠ "java/lang/invoke/VarHandle")
    {W9 : Nat} {Pre : Pt → Array Value → Prop} {Post : Pt → Array Value → Option Value → Pt → Prop} (hK : Back l R p e below s args y 3 W9 Pre Post)
    {g : JFrame} (hg : g.method = m) (hsize : g.locals.size = c.maxLocals) {argsL rest : List Value} (hlen : ∀ sig, parseMethodDescriptor y.desc = some sig → argsL.length = sig.parameters.length)
    (hstack : g.stack = argsL.reverse ++ rest) (hW : 2 * g.monitorRoom + (rest.map fun v => v.category).sum ≤ W9) (hdg : decode c.code g.pc = .ok (.invokestatic index, 3))
    (hpre : ∀ vm₁, s.WarmedH vm₁ → Pre ⟨T.setVm vm₁, locs, cells, slots⟩ argsL.toArray) :
    ∃ (v : Option Value) (vm₁ : Vm) (B : Pt), s.WarmedH vm₁ ∧ Stand p l e R s m args below meth c B.U B.locs B.cells B.slots ∧ Post ⟨T.setVm vm₁, locs, cells, slots⟩ argsL.toArray v B ∧
      ∀ target, Steps p.tables e below (B.U.setTop { g with pc := g.pc + 3, stack := v.toList ++ rest }) target → Steps p.tables e below (T.setTop g) target := by
  obtain ⟨mk, methM, cM, hnamed, hmethM, -, -, -, -, -, -, hsigM⟩ := Cond.codeWith_spec hcode
  have hstatic : methM.isStatic = true := Cond.static_spec hnamed hmethM hstat
  obtain ⟨kP, hkP, -⟩ := className_of_methodNamed hnamed
  have hinitP : kP.init = .initialized := Cond.initialized_spec (findClass_of_methodNamed hnamed) hkP hinit
  obtain ⟨vm₁, X₁, hstep₁⟩ := X.invokestatic hexec hown hlink hnamed hmethM hstatic hkP hinitP hy (g := g) hg (argsL := argsL) (rest := rest) (hlen _ hsigM) hstack hdg
  obtain ⟨v, B, X', hpost, hsteps⟩ := hK m meth c ⟨T.setVm vm₁, locs, cells, slots⟩ { g with stack := rest } (.invokestatic index) mk argsL.toArray X₁ hg hsize hdg hW (X₁.named hnamed) (hpre vm₁ X₁.warmed)
  exact ⟨v, vm₁, B, X₁.warmed, X', hpost, fun target h => hstep₁ _ fun acts => by rw [doInvoke_state]; exact hsteps.trans h⟩
theorem vx_runSW {y : MethodName} {bytes cc : ByteArray} {maxL nL mc ms n index : Nat} {ret : Option FieldType} {hh : List (Nat × Nat × Nat × Nat)} {ws : List Cond} {rm : Room} {Pc : Array Value → State → Prop} {Qc : Array Value → State → Outcome → State → Prop} {free : Addr → Prop} {Ts : List Cond} {own : String} {As rest : List Value} {g : JFrame}
    (S : CallFix p m c cc nL s args Ts own) (hM : Met l y ws rm Pc Qc mc ms free) (cw : vx_CSW R s args own index y bytes maxL ret hh ws rm mc ms n) (hp : PreS s H Pc As)
    (hg : g.method = m) (hn : As.length = n) (hsize : g.locals.size = nL) (hstack : g.stack = As.reverse ++ rest) (hW : 2 * g.monitorRoom + (rest.map fun v => v.category).sum ≤ 8) (hdg : decode cc g.pc = .ok (.invokestatic index, 3)) (hf : cells + mc ≤ R.cells ∧ slots + ms ≤ R.slots) :
    va_Run p l e R s m args below meth c H locs cells slots mc ms g rest (Qc As.toArray) (free) := by
  obtain ⟨⟨hrc, hrs, hfr, hlo, hws, hcw⟩, hcode, hini, hy, hlen, hl, hstt⟩ := cw
  have hK : Back l R p e below s args y 3 8 (PreOf R mc ms Pc) (PostOf Qc mc ms free) := va_backW (hh := hh) (bytes := bytes) (maxL := maxL) (ret := ret) hM hp.1 hrc hrs hfr hlo hws hcw (fun a' U hW => word_at hW (Or.inl (by first | rfl | simp [Cond.onTables, Cond.keeps, Cond.steady])) hini)
  obtain ⟨hx, hb, hml, ho, -⟩ := S
  intro T hT X
  obtain ⟨v, vm₁, ⟨U', l2, c2, s2⟩, hW₁, X', ⟨g', mk, t, L, e1, e2, hq, h1, hL, h2, h3⟩, st⟩ := vx_callSW X hx (hh := hh) (bytes := bytes) (maxL := maxL) (ret := ret) ho hl hstt hini hcode hy hK hg (hsize.trans hml.symm) (argsL := As) (rest := rest) (fun sig h => hn.trans (hlen sig h)) hstack hW (by rw [hb]; exact hdg)
    (fun vm₁ hW₁ => ⟨hf.1, hf.2, hp.2 (T.setVm vm₁) hT hW₁⟩)
  dsimp only [Pt.U, Pt.locs, Pt.cells, Pt.slots] at X' e1 e2 h1 h2 h3 st
  subst h1; subst h2; subst h3
  exact ⟨v, (T.setVm vm₁).calling g' mk As.toArray, t, U', L, hT, X', hL, e1, e2, hq, st⟩
/-- not caught here, past rows that name other classes: it goes on to the caller -/
theorem vx_outP {p : Program} {l : Launch} {e : Env} {R : Room} {s : State} {m : MethodId} {args : Array Value} {below : List Frame} {meth : Method} {c : Code} {H : Heap} {locs : List Loc} {cells slots : Nat} {free : Addr → Prop} {ls : Array Slot} {rest : List Value} {Qc : Array Value → State → Outcome → State → Prop} {XC : String → State → State → Prop}
    {pc : Nat} {own E : String} {ce : Cell} {q : Addr} {mc ms : Nat} (hown : s.vm.findClass own = some m.cls) (hlocks : meth.locks = false)
    (hpass : ∀ z ∈ c.exceptionTable.toList, covers z pc = false ∨ (z.catchType ≠ 0 ∧ ∃ nm : String, (Cond.classLink own z.catchType nm).before args s = true ∧ va_Nc E nm s)) (hcell : H[q]? = some ce) (hv : ce.vm = .none) (hcl : s.vm.findClass E = some ce.cls)
    (hx : ∀ t : State, t.heap = H → s.vm.Alike t.vm → XC E s t) (hf : ∀ z ∈ locs, free z.base) (hc : cells ≤ mc) (hs : slots ≤ ms) :
    vx_W p l e R s m args below meth c H locs cells slots (vx_MQ below Qc XC args s mc ms free) (F0 m pc ls rest) q := by
  intro T hT X
  have hpl : e.platform.magicAccessors = ({} : Platform).magicAccessors := by rw [X.admits.platform]
  obtain ⟨vm', hW', X', st⟩ := X.outThrough hlocks q (g := F0 m pc ls rest) rfl rfl rfl (cell := ce) (by rw [hT]; exact hcell) (by rw [hv]; rfl)
    (by obtain ⟨k9, h9, -⟩ := Vm.findClass_spec hcl; exact ⟨k9, h9⟩) (fun z hz => by
      rcases hpass z hz with h | ⟨hz0, nm, hl1, hn1⟩
      · exact Or.inl h
      · obtain ⟨c6, hc6, hcl6⟩ := Cond.classLink_spec hown hl1 e.platform hpl
        obtain ⟨a8, b8, h1, h2, h3⟩ := hn1
        cases Option.some.inj (h1.symm.trans hcl)
        cases Option.some.inj (h2.symm.trans hc6)
        exact Or.inr ⟨hz0, _, hcl6, h3⟩)
  obtain ⟨g₀, hfr⟩ := X'.frames_eq
  have hcell9 : ((T.setVm vm').setFrames (.throwing q :: below)).heap[q]? = some ce := by
    show T.heap[q]? = some ce
    rw [hT]; exact hcell
  have hend : Ended ((T.setVm vm').setFrames (.throwing q :: below)) below (.threw q) := State.frames_setFrames _ (State.cur_lt_of_frames hfr)
  refine ⟨(T.setVm vm').setFrames (.throwing q :: below), ?_, .threw q, X'.here.running, hend, Or.inr ⟨q, rfl, E, ce, locs, hx _ hT (X'.ends _).1.alike, hcell9, hv, hcl, (X'.ends _).1, (X'.ends _).2.mono hc hs, hf⟩⟩
  rw [X.pushThrowing_eq]
  exact st
/-- a thing of a world lies in the heap -/
theorem vx_lt {D : va_G} {cl : List vw_C} {ws : va_W} {H1 : Heap} (h : va_P D cl ws H1) {k : Nat} {q : Nat × va_E} (hk : ws[k]? = some q) : q.1 < H1.size := (h k q hk).lt
end VXS
/-! ===== END ===== -/
/-! ===== BEGIN methods with a table of their own: called by a name, returning or throwing ===== -/
section VXH
/-! vx_backW, vx_callVX, vx_callSX, vx_callVW, vx_runVW, vx_runVX, vx_runSX, vx_ofWH follow the same proofs as their sisters above (Free/Laws.lean, Shelf42/LK1.lean); vx_outP calls Shelf42/NT130.lean (outThrough). -/
section
variable {l : Launch} {R : Room} {p : Program} {e : Env} {below : List Frame} {s : State} {sargs : Array Value} {y : MethodName} {len W9 : Nat}
theorem vx_backW {ws : List Cond} {rm : Room} {Pc : Array Value → State → Prop} {Qc : Array Value → State → Outcome → State → Prop} {XC : String → State → State → Prop} {mc ms : Nat} {free : Addr → Prop} {bytes : ByteArray} {maxL : Nat} {ret : Option FieldType} {hh : List (Nat × Nat × Nat × Nat)}
    (hM : vx_Met l y ws rm Pc Qc XC mc ms free) (hblind : FrameBlind Pc) (hrc : rm.cells = mc) (hrs : rm.slots = ms)
    (hframes : rm.frames + 1 ≤ R.frames) (hlocals : W9 + (maxL + 11) + rm.locals ≤ R.locals)
    (hws : ∀ w ∈ ws, ∀ a' U, s.WarmedH U.vm → w.before a' U = true) (hcode : Cond.codeWith y bytes maxL ret hh ∈ ws) (hinit : ∀ a' U, s.WarmedH U.vm → (Cond.initialized y.cls).before a' U = true) :
    vx_Back l R p e below s sargs y len W9 (PreOf R mc ms Pc) (PostOf Qc mc ms free) (vx_Post XC mc ms free) := by
  intro m meth c A g ig mk a X hg hsize hdg hW hn hp
  have h1 : (headSpec ws rm).pre.before a A.U = true := atoms_intro fun w hw => hws w hw _ _ X.warmed
  have h2 : (Cond.codeWith y bytes maxL ret hh).before a A.U = true := hws _ hcode _ _ X.warmed
  have h3 : (Cond.initialized y.cls).before a A.U = true := hinit _ _ X.warmed
  have h4 : A.cells + (headSpec ws rm).room.cells ≤ R.cells := by rw [show (headSpec ws rm).room.cells = mc from hrc]; exact hp.1
  have h5 : A.slots + (headSpec ws rm).room.slots ≤ R.slots := by rw [show (headSpec ws rm).room.slots = ms from hrs]; exact hp.2.1
  have hPc : Pc a (A.U.calling g mk a) := hblind _ _ _ _ hp.2.2
  obtain ⟨U, Ls, c0, s0⟩ := A
  dsimp only [Pt.U, Pt.locs, Pt.cells, Pt.slots] at h1 h2 h3 h4 h5 X hn hPc ⊢
  obtain ⟨m9, methY, cY, hn9, hmY, hcY, -, hlY, -⟩ := Cond.codeWith_spec h2
  cases Option.some.inj (hn9.symm.trans hn)
  obtain ⟨kY, hkY, -⟩ := className_of_methodNamed hn
  have hinitY : kY.init = .initialized := Cond.initialized_spec (findClass_of_methodNamed hn) hkY h3
  have h : At U g.method c below := by rw [hg]; exact X.here
  have hlocals9 : W9 + (maxL + 11) + (headSpec ws rm).room.locals ≤ R.locals := hlocals
  have happ : (headSpec ws rm).appliesLoose y e.platform (U.calling g mk a) = true :=
    Spec.appliesLoose_calling (g := g) h hdg hn hkY hinitY
      (X.room_calling (g := g) (R' := (headSpec ws rm).room) hsize hmY hcY hframes (by rw [hlY]; omega) h4 h5) h1
  obtain ⟨mid, hmid⟩ := h.above
  have hfr : (U.setTop g).frames = (.java g :: mid) ++ below := by rw [State.frames_setTop' g h.top, hmid]; rfl
  obtain ⟨o, s₂, hsteps, -, hend, hq⟩ := Steps.callFree hM p X.admits X.cas X.clock (acts := []) hfr happ hPc trivial
  have hq' : vx_Q Qc XC mc ms free a (U.calling g mk a) o s₂ := hq
  rw [State.frames_setTop' g h.top] at hend
  obtain ⟨g₀, hg0⟩ := Option.isSome_iff_exists.mp h.top
  obtain ⟨r, hr⟩ := State.topJava?_eq_some.mp hg0
  have hr' : (({ U with heap := s₂.heap, slotsUsed := s₂.slotsUsed } : State).setVm s₂.vm).frames = .java g₀ :: r := hr
  rcases hq' with ⟨hqc, L, hfe, hL⟩ | ⟨q, rfl, E, ce, L, hx, hce, hcv, hcl, hW₂, hsm, hL⟩
  · obtain ⟨⟨v, rfl⟩, hW₂, e2, q2, q3, q4, q5, q6⟩ := id hfe
    have e3 : s₂ = ({ (U.calling g mk a).setFrames s₂.frames with heap := s₂.heap, slotsUsed := s₂.slotsUsed } : State).setVm s₂.vm := by
      have : s₂ = ({ s₂ with vm := (U.calling g mk a).vm } : State).setVm s₂.vm := rfl
      rw [e2] at this
      exact this
    obtain ⟨c₂, i₂, len₂, hc₂, hd₂, hf₂⟩ := hend
    have hW' : U.WarmedH s₂.vm := hW₂
    have hcc : c₂ = c := by
      have h1 : s₂.code? g.method = U.code? g.method := by
        rw [State.code?_eq, State.code?_eq, hW'.alike.method?]
      exact Option.some.inj (hc₂.symm.trans (h1.trans h.code))
    subst hcc
    have hlen : len₂ = len := by rw [hdg] at hd₂; cases hd₂; rfl
    subst hlen
    have hs₂ : s₂ = (({ U with heap := s₂.heap, slotsUsed := s₂.slotsUsed } : State).setVm s₂.vm).setTop { g with pc := g.pc + len₂, stack := v.toList ++ g.stack } := by
      refine e3.trans ?_
      rw [hf₂, State.calling_eq h.top, State.setFrames_setFrames, State.setTop_of_frames _ hr', hr]
      rfl
    have hsame : U.sameButNew ({ U with heap := s₂.heap, slotsUsed := s₂.slotsUsed } : State) L mc ms := by
      refine ⟨?_, q2, q3, q4, q5, q6⟩
      obtain ⟨t, ht, -⟩ := State.frames_cons hr
      show ({ U with heap := s₂.heap, slotsUsed := s₂.slotsUsed } : State) = { U.setFrames U.frames with heap := s₂.heap, slotsUsed := s₂.slotsUsed }
      rw [State.setFrames_self ht]
    subst hg
    refine Or.inl ⟨v, ⟨(({ U with heap := s₂.heap, slotsUsed := s₂.slotsUsed } : State).setVm s₂.vm), Ls ++ L, c0 + mc, s0 + ms⟩,
      ⟨X.admits, X.cas, X.clock, X.frames, X.room, X.hears, X.method, X.code, (X.here.setHeapUsed s₂.heap s₂.slotsUsed).setVm hW'.alike, X.tail, State.WarmedH.trans X.warmed hW', X.limits, X.bytes, X.same.trans (hsame.setVm s.vm)⟩,
      ⟨g, mk, s₂, L, rfl, rfl, hqc, rfl, hL, rfl, rfl⟩, ?_⟩
    show Steps p.tables e below _ ((({ U with heap := s₂.heap, slotsUsed := s₂.slotsUsed } : State).setVm s₂.vm).setTop { g with pc := g.pc + len₂, stack := v.toList ++ g.stack })
    rw [← hs₂]
    exact hsteps
  · obtain ⟨e2, q2, q3, q4, q5, q6⟩ := id hsm
    have e3 : s₂ = ({ (U.calling g mk a).setFrames s₂.frames with heap := s₂.heap, slotsUsed := s₂.slotsUsed } : State).setVm s₂.vm := by
      have : s₂ = ({ s₂ with vm := (U.calling g mk a).vm } : State).setVm s₂.vm := rfl
      rw [e2] at this
      exact this
    have hf₂ : s₂.frames = .throwing q :: .java g :: U.frames.tail := hend
    have hW' : U.WarmedH s₂.vm := hW₂
    have hs₂ : s₂ = ((({ U with heap := s₂.heap, slotsUsed := s₂.slotsUsed } : State).setVm s₂.vm).setTop g).pushFrame (.throwing q) := by
      refine e3.trans ?_
      rw [hf₂, State.calling_eq h.top, State.setFrames_setFrames, State.pushFrame, State.frames_setTop _ hr', State.setTop_of_frames _ hr', State.setFrames_setFrames, hr]
      rfl
    have hsame : U.sameButNew ({ U with heap := s₂.heap, slotsUsed := s₂.slotsUsed } : State) L mc ms := by
      refine ⟨?_, q2, q3, q4, q5, q6⟩
      obtain ⟨t, ht, -⟩ := State.frames_cons hr
      show ({ U with heap := s₂.heap, slotsUsed := s₂.slotsUsed } : State) = { U.setFrames U.frames with heap := s₂.heap, slotsUsed := s₂.slotsUsed }
      rw [State.setFrames_self ht]
    subst hg
    refine Or.inr ⟨q, ⟨(({ U with heap := s₂.heap, slotsUsed := s₂.slotsUsed } : State).setVm s₂.vm), Ls ++ L, c0 + mc, s0 + ms⟩,
      ⟨X.admits, X.cas, X.clock, X.frames, X.room, X.hears, X.method, X.code, (X.here.setHeapUsed s₂.heap s₂.slotsUsed).setVm hW'.alike, X.tail, State.WarmedH.trans X.warmed hW', X.limits, X.bytes, X.same.trans (hsame.setVm s.vm)⟩,
      ⟨g, mk, s₂, L, E, ce, rfl, rfl, hx, hce, hcv, hcl, rfl, hL, rfl, rfl⟩, ?_⟩
    show Steps p.tables e below _ (((({ U with heap := s₂.heap, slotsUsed := s₂.slotsUsed } : State).setVm s₂.vm).setTop g).pushFrame (.throwing q))
    rw [← hs₂]
    exact hsteps
end
variable {p : Program} {l : Launch} {e : Env} {R : Room} {s : State} {m : MethodId} {args : Array Value} {below : List Frame} {meth : Method} {c : Code} {T : State} {H : Heap} {locs : List Loc} {cells slots : Nat}
theorem vx_callVX (X : Stand p l e R s m args below meth c T locs cells slots) (hexec : p.tables.exec = Jvm.exec) {own C : String} {index : Nat} {y : MethodName} {bytes : ByteArray} {maxL : Nat} {ret : Option FieldType} {hh : List (Nat × Nat × Nat × Nat)}
    (hown : s.vm.findClass own = some m.cls) (hlink : (Cond.methodLink own index y).before args s = true) (hinst : (Cond.instanceMethod y).before args s = true) (hsel : (Cond.selects C y y).before args s = true)
    (hcode : (Cond.codeWith y bytes maxL ret hh).before args s = true) (hy : y.cls ≠ "java/lang/invoke/MethodHandle" ∧ y.cls ≠ "java/lang/invoke/VarHandle")
    {W9 : Nat} {Pre : Pt → Array Value → Prop} {Post : Pt → Array Value → Option Value → Pt → Prop} {PostX : Pt → Array Value → Addr → Pt → Prop} (hK : vx_Back l R p e below s args y 3 W9 Pre Post PostX)
    {b : Addr} {cellB : Cell} (hcell : T.heap[b]? = some cellB) (hobj : cellB.vm.isStatics = false) (hcls : s.vm.findClass C = some cellB.cls)
    {g : JFrame} (hg : g.method = m) (hsize : g.locals.size = c.maxLocals) {argsL rest : List Value} (hlen : ∀ sig, parseMethodDescriptor y.desc = some sig → argsL.length = sig.parameters.length)
    (hstack : g.stack = argsL.reverse ++ .ref b :: rest) (hW : 2 * g.monitorRoom + (rest.map fun v => v.category).sum ≤ W9) (hdg : decode c.code g.pc = .ok (.invokevirtual index, 3))
    (hpre : ∀ vm₁, s.WarmedH vm₁ → Pre ⟨T.setVm vm₁, locs, cells, slots⟩ (Value.ref b :: argsL).toArray) :
    (∃ (v : Option Value) (vm₁ : Vm) (B : Pt), s.WarmedH vm₁ ∧ Stand p l e R s m args below meth c B.U B.locs B.cells B.slots ∧ Post ⟨T.setVm vm₁, locs, cells, slots⟩ (Value.ref b :: argsL).toArray v B ∧
      ∀ target, Steps p.tables e below (B.U.setTop { g with pc := g.pc + 3, stack := v.toList ++ rest }) target → Steps p.tables e below (T.setTop g) target) ∨
    (∃ (q : Addr) (vm₁ : Vm) (B : Pt), s.WarmedH vm₁ ∧ Stand p l e R s m args below meth c B.U B.locs B.cells B.slots ∧ PostX ⟨T.setVm vm₁, locs, cells, slots⟩ (Value.ref b :: argsL).toArray q B ∧
      Steps p.tables e below (T.setTop g) ((B.U.setTop { g with stack := rest }).pushFrame (.throwing q))) := by
  obtain ⟨mk, methM, hnamed, hmethM, hstM, habM⟩ := Cond.instanceMethod_spec hinst
  obtain ⟨m8, methM', cM, hn8, hmethM', -, -, -, -, -, -, hsigM⟩ := Cond.codeWith_spec hcode
  cases Option.some.inj (hn8.symm.trans hnamed)
  cases hmethM.symm.trans hmethM'
  obtain ⟨c2, r2, m2, q1, q2, q3, q4, kP, hkP, hkPi⟩ := Cond.selects_spec hsel
  cases hcls.symm.trans q1
  cases (State.methodFound?_of_named hnamed hy).symm.trans q2
  cases hnamed.symm.trans q3
  have hselP : selectMethod e.platform s.vm cellB.cls mk = .method mk := by rw [Launch.admits_selectMethod X.admits]; exact q4
  obtain ⟨vm₁, X₁, hstep₁⟩ := X.invokevirtual hexec hown hlink hnamed hmethM hstM hkP hkPi hy (a := b) (cell := cellB) hcell
    (fun z h => by rw [h] at hobj; cases hobj) hselP hmethM habM hkP hkPi (g := g) hg (argsL := argsL) (rest := rest) (hlen _ hsigM) hstack hdg
  rcases hK m meth c ⟨T.setVm vm₁, locs, cells, slots⟩ { g with stack := rest } (.invokevirtual index) mk (Value.ref b :: argsL).toArray X₁ hg hsize hdg hW (X₁.named hnamed) (hpre vm₁ X₁.warmed) with ⟨v, B, X', hpost, hsteps⟩ | ⟨q, B, X', hpost, hsteps⟩
  · exact Or.inl ⟨v, vm₁, B, X₁.warmed, X', hpost, fun target h => hstep₁ _ fun acts => by rw [doInvoke_state]; exact hsteps.trans h⟩
  · exact Or.inr ⟨q, vm₁, B, X₁.warmed, X', hpost, hstep₁ _ fun acts => by rw [doInvoke_state]; exact hsteps⟩
theorem vx_callSX (X : Stand p l e R s m args below meth c T locs cells slots) (hexec : p.tables.exec = Jvm.exec) {own : String} {index : Nat} {y : MethodName} {bytes : ByteArray} {maxL : Nat} {ret : Option FieldType} {hh : List (Nat × Nat × Nat × Nat)}
    (hown : s.vm.findClass own = some m.cls) (hlink : (Cond.methodLink own index y).before args s = true) (hstat : (Cond.static y).before args s = true) (hinit : (Cond.initialized y.cls).before args s = true)
    (hcode : (Cond.codeWith y bytes maxL ret hh).before args s = true) (hy : y.cls ≠ "java/lang/invoke/MethodHandle" ∧ y.cls ≠ "java/lang/invoke/VarHandle")
    {W9 : Nat} {Pre : Pt → Array Value → Prop} {Post : Pt → Array Value → Option Value → Pt → Prop} {PostX : Pt → Array Value → Addr → Pt → Prop} (hK : vx_Back l R p e below s args y 3 W9 Pre Post PostX)
    {g : JFrame} (hg : g.method = m) (hsize : g.locals.size = c.maxLocals) {argsL rest : List Value} (hlen : ∀ sig, parseMethodDescriptor y.desc = some sig → argsL.length = sig.parameters.length)
    (hstack : g.stack = argsL.reverse ++ rest) (hW : 2 * g.monitorRoom + (rest.map fun v => v.category).sum ≤ W9) (hdg : decode c.code g.pc = .ok (.invokestatic index, 3))
    (hpre : ∀ vm₁, s.WarmedH vm₁ → Pre ⟨T.setVm vm₁, locs, cells, slots⟩ argsL.toArray) :
    (∃ (v : Option Value) (vm₁ : Vm) (B : Pt), s.WarmedH vm₁ ∧ Stand p l e R s m args below meth c B.U B.locs B.cells B.slots ∧ Post ⟨T.setVm vm₁, locs, cells, slots⟩ argsL.toArray v B ∧
      ∀ target, Steps p.tables e below (B.U.setTop { g with pc := g.pc + 3, stack := v.toList ++ rest }) target → Steps p.tables e below (T.setTop g) target) ∨
    (∃ (q : Addr) (vm₁ : Vm) (B : Pt), s.WarmedH vm₁ ∧ Stand p l e R s m args below meth c B.U B.locs B.cells B.slots ∧ PostX ⟨T.setVm vm₁, locs, cells, slots⟩ argsL.toArray q B ∧
      Steps p.tables e below (T.setTop g) ((B.U.setTop { g with stack := rest }).pushFrame (.throwing q))) := by
  obtain ⟨mk, methM, cM, hnamed, hmethM, -, -, -, -, -, -, hsigM⟩ := Cond.codeWith_spec hcode
  have hstatic : methM.isStatic = true := Cond.static_spec hnamed hmethM hstat
  obtain ⟨kP, hkP, -⟩ := className_of_methodNamed hnamed
  have hinitP : kP.init = .initialized := Cond.initialized_spec (findClass_of_methodNamed hnamed) hkP hinit
  obtain ⟨vm₁, X₁, hstep₁⟩ := X.invokestatic hexec hown hlink hnamed hmethM hstatic hkP hinitP hy (g := g) hg (argsL := argsL) (rest := rest) (hlen _ hsigM) hstack hdg
  rcases hK m meth c ⟨T.setVm vm₁, locs, cells, slots⟩ { g with stack := rest } (.invokestatic index) mk argsL.toArray X₁ hg hsize hdg hW (X₁.named hnamed) (hpre vm₁ X₁.warmed) with ⟨v, B, X', hpost, hsteps⟩ | ⟨q, B, X', hpost, hsteps⟩
  · exact Or.inl ⟨v, vm₁, B, X₁.warmed, X', hpost, fun target h => hstep₁ _ fun acts => by rw [doInvoke_state]; exact hsteps.trans h⟩
  · exact Or.inr ⟨q, vm₁, B, X₁.warmed, X', hpost, hstep₁ _ fun acts => by rw [doInvoke_state]; exact hsteps⟩
theorem vx_callVW (X : Stand p l e R s m args below meth c T locs cells slots) (hexec : p.tables.exec = Jvm.exec) {own C : String} {index : Nat} {y : MethodName} {bytes : ByteArray} {maxL : Nat} {ret : Option FieldType} {hh : List (Nat × Nat × Nat × Nat)}
    (hown : s.vm.findClass own = some m.cls) (hlink : (Cond.methodLink own index y).before args s = true) (hinst : (Cond.instanceMethod y).before args s = true) (hsel : (Cond.selects C y y).before args s = true)
    (hcode : (Cond.codeWith y bytes maxL ret hh).before args s = true) (hy : y.cls ≠ "java/lang/invoke/MethodHandle" ∧ y.cls ≠ "java/lang/invoke/VarHandle")
    {W9 : Nat} {Pre : Pt → Array Value → Prop} {Post : Pt → Array Value → Option Value → Pt → Prop} (hK : Back l R p e below s args y 3 W9 Pre Post)
    {b : Addr} {cellB : Cell} (hcell : T.heap[b]? = some cellB) (hobj : cellB.vm.isStatics = false) (hcls : s.vm.findClass C = some cellB.cls)
    {g : JFrame} (hg : g.method = m) (hsize : g.locals.size = c.maxLocals) {argsL rest : List Value} (hlen : ∀ sig, parseMethodDescriptor y.desc = some sig → argsL.length = sig.parameters.length)
    (hstack : g.stack = argsL.reverse ++ .ref b :: rest) (hW : 2 * g.monitorRoom + (rest.map fun v => v.category).sum ≤ W9) (hdg : decode c.code g.pc = .ok (.invokevirtual index, 3))
    (hpre : ∀ vm₁, s.WarmedH vm₁ → Pre ⟨T.setVm vm₁, locs, cells, slots⟩ (Value.ref b :: argsL).toArray) :
    ∃ (v : Option Value) (vm₁ : Vm) (B : Pt), s.WarmedH vm₁ ∧ Stand p l e R s m args below meth c B.U B.locs B.cells B.slots ∧ Post ⟨T.setVm vm₁, locs, cells, slots⟩ (Value.ref b :: argsL).toArray v B ∧
      ∀ target, Steps p.tables e below (B.U.setTop { g with pc := g.pc + 3, stack := v.toList ++ rest }) target → Steps p.tables e below (T.setTop g) target := by
  obtain ⟨mk, methM, hnamed, hmethM, hstM, habM⟩ := Cond.instanceMethod_spec hinst
  obtain ⟨m8, methM', cM, hn8, hmethM', -, -, -, -, -, -, hsigM⟩ := Cond.codeWith_spec hcode
  cases Option.some.inj (hn8.symm.trans hnamed)
  cases hmethM.symm.trans hmethM'
  obtain ⟨c2, r2, m2, q1, q2, q3, q4, kP, hkP, hkPi⟩ := Cond.selects_spec hsel
  cases hcls.symm.trans q1
  cases (State.methodFound?_of_named hnamed hy).symm.trans q2
  cases hnamed.symm.trans q3
  have hselP : selectMethod e.platform s.vm cellB.cls mk = .method mk := by rw [Launch.admits_selectMethod X.admits]; exact q4
  obtain ⟨vm₁, X₁, hstep₁⟩ := X.invokevirtual hexec hown hlink hnamed hmethM hstM hkP hkPi hy (a := b) (cell := cellB) hcell
    (fun z h => by rw [h] at hobj; cases hobj) hselP hmethM habM hkP hkPi (g := g) hg (argsL := argsL) (rest := rest) (hlen _ hsigM) hstack hdg
  obtain ⟨v, B, X', hpost, hsteps⟩ := hK m meth c ⟨T.setVm vm₁, locs, cells, slots⟩ { g with stack := rest } (.invokevirtual index) mk (Value.ref b :: argsL).toArray X₁ hg hsize hdg hW (X₁.named hnamed) (hpre vm₁ X₁.warmed)
  exact ⟨v, vm₁, B, X₁.warmed, X', hpost, fun target h => hstep₁ _ fun acts => by rw [doInvoke_state]; exact hsteps.trans h⟩
abbrev vx_CVW (R : Room) (s : State) (args : Array Value) (own C : String) (index : Nat) (y : MethodName) (bytes : ByteArray) (maxL : Nat) (ret : Option FieldType) (hh : List (Nat × Nat × Nat × Nat)) (ws : List Cond) (rm : Room) (mc ms n : Nat) : Prop :=
  (rm.cells = mc ∧ rm.slots = ms ∧ rm.frames + 1 ≤ R.frames ∧ 8 + (maxL + 11) + rm.locals ≤ R.locals ∧ (∀ w ∈ ws, ∀ (a' : Array Value) (U : State), s.WarmedH U.vm → w.before a' U = true) ∧ Cond.codeWith y bytes maxL ret hh ∈ ws) ∧
  (Cond.codeWith y bytes maxL ret hh).before args s = true ∧ (Cond.initialized y.cls).before args s = true ∧ (y.cls ≠ "java/lang/invoke/MethodHandle" ∧ y.cls ≠ "java/lang/invoke/VarHandle") ∧
  (∀ sig, parseMethodDescriptor y.desc = some sig → n = sig.parameters.length) ∧ (Cond.methodLink own index y).before args s = true ∧ (Cond.instanceMethod y).before args s = true ∧ (Cond.selects C y y).before args s = true
theorem vx_cwVW {own C : String} {index maxL mc ms : Nat} {y : MethodName} {bytes : ByteArray} {ret : Option FieldType} {hh : List (Nat × Nat × Nat × Nat)} {Ts ws ws' : List Cond} {rm : Room} (n : Nat) (ht : ∀ w ∈ Ts, w.before args s = true) (hT : GoodIn Ts (wsV own index C y ws)) (hw : ws = Cond.codeWith y bytes maxL ret hh :: ws') (hrc : rm.cells = mc) (hrs : rm.slots = ms)
    (hd : y.cls = C ∧ y.cls ≠ "java/lang/invoke/MethodHandle" ∧ y.cls ≠ "java/lang/invoke/VarHandle" ∧ (parseMethodDescriptor y.desc).map (fun d => d.parameters.length) = some n) (hR : rm.frames + 1 ≤ R.frames ∧ 8 + (maxL + 11) + rm.locals ≤ R.locals) :
    vx_CVW R s args own C index y bytes maxL ret hh ws rm mc ms n := by
  obtain ⟨hC, hd⟩ := hd
  subst hC
  have ok : ∀ w ∈ wsV own index y.cls y ws, w.before args s = true := fun w h => ht w (hT w h).1
  have hG : GoodIn Ts ws := fun w h => hT w (by unfold wsV; exact List.mem_append_right _ h)
  have hc : Cond.codeWith y bytes maxL ret hh ∈ ws := by rw [hw]; exact List.mem_cons_self
  refine ⟨⟨hrc, hrs, hR.1, hR.2, pay_in ht hG, hc⟩, ht _ (hG _ hc).1, ok _ (by simp [wsV]), ⟨hd.1, hd.2.1⟩, fun sig h => ?_, ok _ (by simp [wsV]), ok _ (by simp [wsV]), ok _ (by simp [wsV])⟩
  have h2 := hd.2.2
  rw [h] at h2
  exact (Option.some.inj h2).symm
theorem vx_runVW {y : MethodName} {bytes cc : ByteArray} {maxL nL mc ms n index : Nat} {ret : Option FieldType} {hh : List (Nat × Nat × Nat × Nat)} {ws : List Cond} {rm : Room} {Pc : Array Value → State → Prop} {Qc : Array Value → State → Outcome → State → Prop} {free : Addr → Prop} {Ts : List Cond} {own C : String} {b : Addr} {As rest : List Value} {g : JFrame}
    (S : CallFix p m c cc nL s args Ts own) (hM : Met l y ws rm Pc Qc mc ms free) (cw : vx_CVW R s args own C index y bytes maxL ret hh ws rm mc ms n) (hp : PreV s H C b Pc As)
    (hg : g.method = m) (hn : As.length = n) (hsize : g.locals.size = nL) (hstack : g.stack = As.reverse ++ .ref b :: rest) (hW : 2 * g.monitorRoom + (rest.map fun v => v.category).sum ≤ 8) (hdg : decode cc g.pc = .ok (.invokevirtual index, 3)) (hf : cells + mc ≤ R.cells ∧ slots + ms ≤ R.slots) :
    va_Run p l e R s m args below meth c H locs cells slots mc ms g rest (Qc (Value.ref b :: As).toArray) free := by
  obtain ⟨⟨hrc, hrs, hfr, hlo, hws, hcw⟩, hcode, hini, hy, hlen, hl, hin, hse⟩ := cw
  have hK : Back l R p e below s args y 3 8 (PreOf R mc ms Pc) (PostOf Qc mc ms free) := va_backW (hh := hh) (bytes := bytes) (maxL := maxL) (ret := ret) hM hp.1 hrc hrs hfr hlo hws hcw (fun a' U hW => word_at hW (Or.inl (by first | rfl | simp [Cond.onTables, Cond.keeps, Cond.steady])) hini)
  obtain ⟨hx, hb, hml, ho, -⟩ := S
  obtain ⟨-, ⟨cellB, hcB, hoB, hclB⟩, hPc⟩ := hp
  intro T hT X
  obtain ⟨v, vm₁, ⟨U', l2, c2, s2⟩, hW₁, X', ⟨g', mk, t, L, e1, e2, hq, h1, hL, h2, h3⟩, st⟩ := vx_callVW X hx (C := C) (hh := hh) (bytes := bytes) (maxL := maxL) (ret := ret) ho hl hin hse hcode hy hK (by rw [hT]; exact hcB) hoB hclB hg (hsize.trans hml.symm) (argsL := As) (rest := rest) (fun sig h => hn.trans (hlen sig h)) hstack hW (by rw [hb]; exact hdg)
    (fun vm₁ hW₁ => ⟨hf.1, hf.2, hPc (T.setVm vm₁) hT hW₁⟩)
  dsimp only [Pt.U, Pt.locs, Pt.cells, Pt.slots] at X' e1 e2 h1 h2 h3 st
  subst h1; subst h2; subst h3
  exact ⟨v, (T.setVm vm₁).calling g' mk (Value.ref b :: As).toArray, t, U', L, hT, X', hL, e1, e2, hq, st⟩
section
variable {y : MethodName} {bytes cc : ByteArray} {maxL nL mc ms n index : Nat} {ret : Option FieldType} {ws : List Cond} {rm : Room} {Pc : Array Value → State → Prop} {Qc : Array Value → State → Outcome → State → Prop} {XC : String → State → State → Prop} {free : Addr → Prop} {Ts : List Cond} {own C : String} {b : Addr} {As rest : List Value} {g : JFrame}
theorem vx_runVX {hh : List (Nat × Nat × Nat × Nat)} (S : CallFix p m c cc nL s args Ts own) (hM : vx_Met l y ws rm Pc Qc XC mc ms free) (cw : vx_CVW R s args own C index y bytes maxL ret hh ws rm mc ms n) (hp : PreV s H C b Pc As)
    (hg : g.method = m) (hn : As.length = n) (hsize : g.locals.size = nL) (hstack : g.stack = As.reverse ++ .ref b :: rest) (hW : 2 * g.monitorRoom + (rest.map fun v => v.category).sum ≤ 8) (hdg : decode cc g.pc = .ok (.invokevirtual index, 3)) (hf : cells + mc ≤ R.cells ∧ slots + ms ≤ R.slots) :
    vx_Run p l e R s m args below meth c H locs cells slots mc ms g rest (Qc (Value.ref b :: As).toArray) XC free := by
  obtain ⟨⟨hrc, hrs, hfr, hlo, hws, hcw⟩, hcode, hini, hy, hlen, hl, hin, hse⟩ := cw
  have hK : vx_Back l R p e below s args y 3 8 (PreOf R mc ms Pc) (PostOf Qc mc ms free) (vx_Post XC mc ms free) := vx_backW (hh := hh) (bytes := bytes) (maxL := maxL) (ret := ret) hM hp.1 hrc hrs hfr hlo hws hcw (fun a' U hW => word_at hW (Or.inl (by first | rfl | simp [Cond.onTables, Cond.keeps, Cond.steady])) hini)
  obtain ⟨hx, hb, hml, ho, -⟩ := S
  obtain ⟨-, ⟨cellB, hcB, hoB, hclB⟩, hPc⟩ := hp
  intro T hT X
  rcases vx_callVX X hx (C := C) (hh := hh) (bytes := bytes) (maxL := maxL) (ret := ret) ho hl hin hse hcode hy hK (by rw [hT]; exact hcB) hoB hclB hg (hsize.trans hml.symm) (argsL := As) (rest := rest) (fun sig h => hn.trans (hlen sig h)) hstack hW (by rw [hb]; exact hdg)
    (fun vm₁ hW₁ => ⟨hf.1, hf.2, hPc (T.setVm vm₁) hT hW₁⟩) with ⟨v, vm₁, ⟨U', l2, c2, s2⟩, hW₁, X', ⟨g', mk, t, L, e1, e2, hq, h1, hL, h2, h3⟩, st⟩ | ⟨q, vm₁, ⟨U', l2, c2, s2⟩, hW₁, X', ⟨g', mk, t, L, E, ce, e1, e2, hq, hce, hcv, hcl, h1, hL, h2, h3⟩, st⟩
  · dsimp only [Pt.U, Pt.locs, Pt.cells, Pt.slots] at X' e1 e2 h1 h2 h3 st
    subst h1; subst h2; subst h3
    exact Or.inl ⟨v, (T.setVm vm₁).calling g' mk (Value.ref b :: As).toArray, t, U', L, hT, X', hL, e1, e2, hq, st⟩
  · dsimp only [Pt.U, Pt.locs, Pt.cells, Pt.slots] at X' e1 e2 h1 h2 h3 st hcl
    subst h1; subst h2; subst h3
    exact Or.inr ⟨q, (T.setVm vm₁).calling g' mk (Value.ref b :: As).toArray, t, U', L, E, ce, hT, X', hL, e1, e2, hq, hce, hcv, vx_cls hW₁ hcl, st⟩
theorem vx_runSX {hh : List (Nat × Nat × Nat × Nat)} (S : CallFix p m c cc nL s args Ts own) (hM : vx_Met l y ws rm Pc Qc XC mc ms free) (cw : vx_CSW R s args own index y bytes maxL ret hh ws rm mc ms n) (hp : PreS s H Pc As)
    (hg : g.method = m) (hn : As.length = n) (hsize : g.locals.size = nL) (hstack : g.stack = As.reverse ++ rest) (hW : 2 * g.monitorRoom + (rest.map fun v => v.category).sum ≤ 8) (hdg : decode cc g.pc = .ok (.invokestatic index, 3)) (hf : cells + mc ≤ R.cells ∧ slots + ms ≤ R.slots) :
    vx_Run p l e R s m args below meth c H locs cells slots mc ms g rest (Qc As.toArray) XC free := by
  obtain ⟨⟨hrc, hrs, hfr, hlo, hws, hcw⟩, hcode, hini, hy, hlen, hl, hstt⟩ := cw
  have hK : vx_Back l R p e below s args y 3 8 (PreOf R mc ms Pc) (PostOf Qc mc ms free) (vx_Post XC mc ms free) := vx_backW (hh := hh) (bytes := bytes) (maxL := maxL) (ret := ret) hM hp.1 hrc hrs hfr hlo hws hcw (fun a' U hW => word_at hW (Or.inl (by first | rfl | simp [Cond.onTables, Cond.keeps, Cond.steady])) hini)
  obtain ⟨hx, hb, hml, ho, -⟩ := S
  intro T hT X
  rcases vx_callSX X hx (hh := hh) (bytes := bytes) (maxL := maxL) (ret := ret) ho hl hstt hini hcode hy hK hg (hsize.trans hml.symm) (argsL := As) (rest := rest) (fun sig h => hn.trans (hlen sig h)) hstack hW (by rw [hb]; exact hdg)
    (fun vm₁ hW₁ => ⟨hf.1, hf.2, hp.2 (T.setVm vm₁) hT hW₁⟩) with ⟨v, vm₁, ⟨U', l2, c2, s2⟩, hW₁, X', ⟨g', mk, t, L, e1, e2, hq, h1, hL, h2, h3⟩, st⟩ | ⟨q, vm₁, ⟨U', l2, c2, s2⟩, hW₁, X', ⟨g', mk, t, L, E, ce, e1, e2, hq, hce, hcv, hcl, h1, hL, h2, h3⟩, st⟩
  · dsimp only [Pt.U, Pt.locs, Pt.cells, Pt.slots] at X' e1 e2 h1 h2 h3 st
    subst h1; subst h2; subst h3
    exact Or.inl ⟨v, (T.setVm vm₁).calling g' mk As.toArray, t, U', L, hT, X', hL, e1, e2, hq, st⟩
  · dsimp only [Pt.U, Pt.locs, Pt.cells, Pt.slots] at X' e1 e2 h1 h2 h3 st hcl
    subst h1; subst h2; subst h3
    exact Or.inr ⟨q, (T.setVm vm₁).calling g' mk As.toArray, t, U', L, E, ce, hT, X', hL, e1, e2, hq, hce, hcv, vx_cls hW₁ hcl, st⟩
end
end VXH
theorem vx_ofWH {l : Launch} {y : MethodName} {ws ws' : List Cond} {rm : Room} {Pc : Array Value → State → Prop} {Qc : Array Value → State → Outcome → State → Prop} {XC : String → State → State → Prop} {mc ms : Nat} {free : Addr → Prop} {cc : ByteArray} {maxL : Nat} {ret : Option FieldType} {hh : List (Nat × Nat × Nat × Nat)}
    (hy : plainName y.cls = true) (hw : ws = Cond.codeWith y cc maxL ret hh :: ws')
    (body : ∀ p e s m args below meth c s₁, BodyLoose p l y (headSpec ws rm) cc maxL ret e s m args below meth c s₁ → c.maxLocals = maxL → Pc args s →
      W p l e (headSpec ws rm).room s m args below meth c s.heap [] 0 0 (vx_MQ below Qc XC args s mc ms free) (entryFrame m args maxL)) : vx_Met l y ws rm Pc Qc XC mc ms free := by
  refine MetFree.of_bodyS (code := cc) (maxLocals := maxL) (ret := ret) hy ?_ ?_
  · intro args s m h hn
    obtain ⟨m9, meth, c, hn9, h1, h2, h3, h4, -, h5, h6, -⟩ := Cond.codeWith_spec (atoms_spec (ws := ws) h _ (by rw [hw]; exact List.mem_cons_self))
    cases hn.symm.trans hn9
    exact ⟨meth, c, h1, h2, h3, h4, h5, h6⟩
  · intro p e s m args below meth c s₁ B hml hP _
    have hh0 : s₁.heap = s.heap := by rw [B.state]; rfl
    obtain ⟨t, a1, o, b1, b2, b3⟩ := body p e s m args below meth c s₁ B hml hP s₁ hh0 (Stand.of_body B)
    exact ⟨t, o, a1, b1, b2, b3⟩
/-! ===== END ===== -/
end
section
def RX0 : String := "Icehighway$Load"
def TX0 : u_T := fun k => match k with
  | 0 => ("Icehighway$Load", "goods", "I", true)
  | 1 => ("Icehighway$Load", "kilos", "I", true)
  | _ => ("Icehighway$Load", "isBack", "Z", false)
def tyX0 : Nat → FieldType := fun k => match k with
  | 0 => .int
  | 1 => .int
  | _ => .boolean
abbrev wsX00 : List Cond := u_ws RX0 TX0 3
theorem nmX0 : ∀ a, a < 3 → ∀ b, b < 3 → a ≠ b → (TX0 a).2.1 ≠ (TX0 b).2.1 := by decide +kernel
theorem tyX0_ok : ∀ k, k < 3 → parseFieldDescriptor (TX0 k).2.2.1 = some (tyX0 k) := by decide +kernel
abbrev cX0_init : ByteArray := prog_2_method_1_code
def yX0_init : MethodName := ⟨RX0, "<init>", "(II)V"⟩
def RX1 : String := "Icehighway$Piece"
def TX1 : u_T := fun k => match k with
  | 0 => ("Icehighway$Piece", "kind", "I", true)
  | 1 => ("Icehighway$Piece", "metres", "I", true)
  | 2 => ("Icehighway$Piece", "depth", "I", true)
  | 3 => ("Icehighway$Piece", "black", "I", false)
  | 4 => ("Icehighway$Piece", "white", "I", false)
  | 5 => ("Icehighway$Piece", "water", "I", false)
  | 6 => ("Icehighway$Piece", "snow", "I", false)
  | 7 => ("Icehighway$Piece", "crack", "I", false)
  | 8 => ("Icehighway$Piece", "openness", "I", false)
  | 9 => ("Icehighway$Piece", "speedLimit", "I", false)
  | 10 => ("Icehighway$Piece", "known", "D", false)
  | 11 => ("Icehighway$Piece", "onToMine", "I", false)
  | 12 => ("Icehighway$Piece", "onToBase", "I", false)
  | 13 => ("Icehighway$Piece", "weightOn", "I", false)
  | 14 => ("Icehighway$Piece", "lastToMine", "I", false)
  | _ => ("Icehighway$Piece", "lastToBase", "I", false)
def tyX1 : Nat → FieldType := fun k => match k with
  | 0 => .int
  | 1 => .int
  | 2 => .int
  | 3 => .int
  | 4 => .int
  | 5 => .int
  | 6 => .int
  | 7 => .int
  | 8 => .int
  | 9 => .int
  | 10 => .double
  | 11 => .int
  | 12 => .int
  | 13 => .int
  | 14 => .int
  | _ => .int
abbrev wsX10 : List Cond := u_ws RX1 TX1 16
theorem nmX1 : ∀ a, a < 16 → ∀ b, b < 16 → a ≠ b → (TX1 a).2.1 ≠ (TX1 b).2.1 := by decide +kernel
theorem tyX1_ok : ∀ k, k < 16 → parseFieldDescriptor (TX1 k).2.2.1 = some (tyX1 k) := by decide +kernel
abbrev cX1_init : ByteArray := prog_3_method_1_code
def yX1_init : MethodName := ⟨RX1, "<init>", "(III)V"⟩
abbrev cX1_isWaterPiece : ByteArray := prog_3_method_2_code
def yX1_isWaterPiece : MethodName := ⟨RX1, "isWaterPiece", "()Z"⟩
abbrev cX1_hasIce : ByteArray := prog_3_method_3_code
def yX1_hasIce : MethodName := ⟨RX1, "hasIce", "()Z"⟩
abbrev cX1_realThickness : ByteArray := prog_3_method_4_code
def yX1_realThickness : MethodName := ⟨RX1, "realThickness", "()D"⟩
abbrev cX1_thicknessAs : ByteArray := prog_3_method_5_code
def yX1_thicknessAs : MethodName := ⟨RX1, "thicknessAs", "(Z)D"⟩
abbrev cX1_bearsAs : ByteArray := prog_3_method_6_code
def yX1_bearsAs : MethodName := ⟨RX1, "bearsAs", "(Z)I"⟩
abbrev cX1_freeze : ByteArray := prog_3_method_7_code
def yX1_freeze : MethodName := ⟨RX1, "freeze", "(I)V"⟩
abbrev cX1_growth : ByteArray := prog_3_method_8_code
def yX1_growth : MethodName := ⟨RX1, "growth", "(I)I"⟩
abbrev cX1_thaw : ByteArray := prog_3_method_9_code
def yX1_thaw : MethodName := ⟨RX1, "thaw", "(I)V"⟩
abbrev cX1_speedOf : ByteArray := prog_3_method_10_code
def yX1_speedOf : MethodName := ⟨RX1, "speedOf", "(LIcehighway$Vehicle;)I"⟩
abbrev cX1_minutesOf : ByteArray := prog_3_method_11_code
def yX1_minutesOf : MethodName := ⟨RX1, "minutesOf", "(LIcehighway$Vehicle;)I"⟩
abbrev cX1_countOn : ByteArray := prog_3_method_12_code
def yX1_countOn : MethodName := ⟨RX1, "countOn", "(Z)I"⟩
abbrev cX1_lastComing : ByteArray := prog_3_method_13_code
def yX1_lastComing : MethodName := ⟨RX1, "lastComing", "(Z)I"⟩
abbrev cX1_noteComing : ByteArray := prog_3_method_14_code
def yX1_noteComing : MethodName := ⟨RX1, "noteComing", "(ZI)V"⟩
abbrev cX1_takeOn : ByteArray := prog_3_method_15_code
def yX1_takeOn : MethodName := ⟨RX1, "takeOn", "(LIcehighway$Vehicle;)V"⟩
abbrev cX1_letOff : ByteArray := prog_3_method_16_code
def yX1_letOff : MethodName := ⟨RX1, "letOff", "(LIcehighway$Vehicle;)V"⟩
abbrev cX1_breakUp : ByteArray := prog_3_method_17_code
def yX1_breakUp : MethodName := ⟨RX1, "breakUp", "()V"⟩
def RX2 : String := "Icehighway$Vehicle"
def TX2 : u_T := fun k => match k with
  | 0 => ("Icehighway$Vehicle", "empty", "I", true)
  | 1 => ("Icehighway$Vehicle", "carries", "I", true)
  | 2 => ("Icehighway$Vehicle", "ownSpeed", "I", true)
  | 3 => ("Icehighway$Vehicle", "where", "I", false)
  | 4 => ("Icehighway$Vehicle", "between", "I", false)
  | 5 => ("Icehighway$Vehicle", "isToMine", "Z", false)
  | 6 => ("Icehighway$Vehicle", "overAt", "I", false)
  | _ => ("Icehighway$Vehicle", "cargo", "LIcehighway$Load;", false)
def tyX2 : Nat → FieldType := fun k => match k with
  | 0 => .int
  | 1 => .int
  | 2 => .int
  | 3 => .int
  | 4 => .int
  | 5 => .boolean
  | 6 => .int
  | _ => .object "Icehighway$Load"
abbrev wsX20 : List Cond := u_ws RX2 TX2 8
theorem nmX2 : ∀ a, a < 8 → ∀ b, b < 8 → a ≠ b → (TX2 a).2.1 ≠ (TX2 b).2.1 := by decide +kernel
theorem tyX2_ok : ∀ k, k < 8 → parseFieldDescriptor (TX2 k).2.2.1 = some (tyX2 k) := by decide +kernel
abbrev cX2_init : ByteArray := prog_4_method_1_code
def yX2_init : MethodName := ⟨RX2, "<init>", "(III)V"⟩
abbrev cX2_weight : ByteArray := prog_4_method_2_code
def yX2_weight : MethodName := ⟨RX2, "weight", "()I"⟩
def RX3 : String := "Icehighway"
def TX3 : u_T := fun k => match k with
  | 0 => ("Icehighway", "pieces", "Ljava/util/List;", true)
  | 1 => ("Icehighway", "vehicles", "Ljava/util/List;", true)
  | 2 => ("Icehighway", "entered", "Ljava/util/List;", true)
  | 3 => ("Icehighway", "taken", "[I", true)
  | 4 => ("Icehighway", "brought", "[I", true)
  | 5 => ("Icehighway", "ordered", "[I", true)
  | 6 => ("Icehighway", "now", "I", false)
  | 7 => ("Icehighway", "cold", "I", false)
  | _ => ("Icehighway", "gapMinutes", "I", false)
def tyX3 : Nat → FieldType := fun k => match k with
  | 0 => .object "java/util/List"
  | 1 => .object "java/util/List"
  | 2 => .object "java/util/List"
  | 3 => .array .int
  | 4 => .array .int
  | 5 => .array .int
  | 6 => .int
  | 7 => .int
  | _ => .int
abbrev wsX30 : List Cond := u_ws RX3 TX3 9
theorem nmX3 : ∀ a, a < 9 → ∀ b, b < 9 → a ≠ b → (TX3 a).2.1 ≠ (TX3 b).2.1 := by decide +kernel
theorem tyX3_ok : ∀ k, k < 9 → parseFieldDescriptor (TX3 k).2.2.1 = some (tyX3 k) := by decide +kernel
abbrev cX3_init : ByteArray := prog_1_method_1_code
def yX3_init : MethodName := ⟨RX3, "<init>", "()V"⟩
abbrev cX3_piece : ByteArray := prog_1_method_2_code
def yX3_piece : MethodName := ⟨RX3, "piece", "(III)I"⟩
abbrev cX3_weather : ByteArray := prog_1_method_3_code
def yX3_weather : MethodName := ⟨RX3, "weather", "(I)I"⟩
abbrev cX3_snow : ByteArray := prog_1_method_4_code
def yX3_snow : MethodName := ⟨RX3, "snow", "(I)I"⟩
abbrev cX3_plough : ByteArray := prog_1_method_5_code
def yX3_plough : MethodName := ⟨RX3, "plough", "(I)I"⟩
abbrev cX3_flood : ByteArray := prog_1_method_6_code
def yX3_flood : MethodName := ⟨RX3, "flood", "(II)I"⟩
abbrev cX3_drill : ByteArray := prog_1_method_7_code
def yX3_drill : MethodName := ⟨RX3, "drill", "(I)D"⟩
abbrev cX3_open : ByteArray := prog_1_method_8_code
def yX3_open : MethodName := ⟨RX3, "open", "(II)I"⟩
abbrev cX3_limit : ByteArray := prog_1_method_9_code
def yX3_limit : MethodName := ⟨RX3, "limit", "(II)I"⟩
abbrev cX3_gap : ByteArray := prog_1_method_10_code
def yX3_gap : MethodName := ⟨RX3, "gap", "(I)I"⟩
abbrev cX3_vehicle : ByteArray := prog_1_method_11_code
def yX3_vehicle : MethodName := ⟨RX3, "vehicle", "(III)I"⟩
abbrev cX3_load : ByteArray := prog_1_method_12_code
def yX3_load : MethodName := ⟨RX3, "load", "(III)I"⟩
abbrev cX3_go : ByteArray := prog_1_method_13_code
def yX3_go : MethodName := ⟨RX3, "go", "(I)Z"⟩
abbrev cX3_turn : ByteArray := prog_1_method_14_code
def yX3_turn : MethodName := ⟨RX3, "turn", "(I)Z"⟩
abbrev cX3_order : ByteArray := prog_1_method_15_code
def yX3_order : MethodName := ⟨RX3, "order", "(II)I"⟩
abbrev cX3_pass : ByteArray := prog_1_method_16_code
def yX3_pass : MethodName := ⟨RX3, "pass", "(I)I"⟩
abbrev cX3_minute : ByteArray := prog_1_method_17_code
def yX3_minute : MethodName := ⟨RX3, "minute", "()I"⟩
abbrev cX3_told : ByteArray := prog_1_method_18_code
def yX3_told : MethodName := ⟨RX3, "told", "(II)I"⟩
abbrev cX3_thickness : ByteArray := prog_1_method_19_code
def yX3_thickness : MethodName := ⟨RX3, "thickness", "(IZ)D"⟩
abbrev cX3_bears : ByteArray := prog_1_method_20_code
def yX3_bears : MethodName := ⟨RX3, "bears", "(IZ)I"⟩
abbrev cX3_ofVehicle : ByteArray := prog_1_method_21_code
def yX3_ofVehicle : MethodName := ⟨RX3, "ofVehicle", "(II)I"⟩
abbrev cX3_why : ByteArray := prog_1_method_22_code
def yX3_why : MethodName := ⟨RX3, "why", "(I)I"⟩
abbrev cX3_speed : ByteArray := prog_1_method_23_code
def yX3_speed : MethodName := ⟨RX3, "speed", "(II)I"⟩
abbrev cX3_minutes : ByteArray := prog_1_method_24_code
def yX3_minutes : MethodName := ⟨RX3, "minutes", "(II)I"⟩
abbrev cX3_minutesAnew : ByteArray := prog_1_method_25_code
def yX3_minutesAnew : MethodName := ⟨RX3, "minutesAnew", "(II)I"⟩
abbrev cX3_kilos : ByteArray := prog_1_method_26_code
def yX3_kilos : MethodName := ⟨RX3, "kilos", "(II)I"⟩
abbrev cX3_kilosAnew : ByteArray := prog_1_method_27_code
def yX3_kilosAnew : MethodName := ⟨RX3, "kilosAnew", "(I)I"⟩
abbrev cX3_bill : ByteArray := prog_1_method_28_code
def yX3_bill : MethodName := ⟨RX3, "bill", "()J"⟩
abbrev cX3_needRange : ByteArray := prog_1_method_29_code
def yX3_needRange : MethodName := ⟨RX3, "needRange", "(III)V"⟩
abbrev cX3_needGoods : ByteArray := prog_1_method_30_code
def yX3_needGoods : MethodName := ⟨RX3, "needGoods", "(I)V"⟩
abbrev cX3_pieceNumbered : ByteArray := prog_1_method_31_code
def yX3_pieceNumbered : MethodName := ⟨RX3, "pieceNumbered", "(I)LIcehighway$Piece;"⟩
abbrev cX3_vehicleNumbered : ByteArray := prog_1_method_32_code
def yX3_vehicleNumbered : MethodName := ⟨RX3, "vehicleNumbered", "(I)LIcehighway$Vehicle;"⟩
abbrev cX3_kilosInVehicles : ByteArray := prog_1_method_33_code
def yX3_kilosInVehicles : MethodName := ⟨RX3, "kilosInVehicles", "(IZ)I"⟩
abbrev cX3_kilosMissing : ByteArray := prog_1_method_34_code
def yX3_kilosMissing : MethodName := ⟨RX3, "kilosMissing", "(I)I"⟩
abbrev cX3_unload : ByteArray := prog_1_method_35_code
def yX3_unload : MethodName := ⟨RX3, "unload", "(LIcehighway$Vehicle;)V"⟩
abbrev cX3_passOneMinute : ByteArray := prog_1_method_36_code
def yX3_passOneMinute : MethodName := ⟨RX3, "passOneMinute", "()V"⟩
abbrev cX3_endDay : ByteArray := prog_1_method_37_code
def yX3_endDay : MethodName := ⟨RX3, "endDay", "()V"⟩
abbrev cX3_moveOn : ByteArray := prog_1_method_38_code
def yX3_moveOn : MethodName := ⟨RX3, "moveOn", "(LIcehighway$Vehicle;)V"⟩
abbrev cX3_leave : ByteArray := prog_1_method_39_code
def yX3_leave : MethodName := ⟨RX3, "leave", "(LIcehighway$Vehicle;)V"⟩
abbrev cX3_stopAtEnd : ByteArray := prog_1_method_40_code
def yX3_stopAtEnd : MethodName := ⟨RX3, "stopAtEnd", "(LIcehighway$Vehicle;)V"⟩
abbrev cX3_comeOnto : ByteArray := prog_1_method_41_code
def yX3_comeOnto : MethodName := ⟨RX3, "comeOnto", "(LIcehighway$Vehicle;)V"⟩
abbrev cX3_pieceAhead : ByteArray := prog_1_method_42_code
def yX3_pieceAhead : MethodName := ⟨RX3, "pieceAhead", "(LIcehighway$Vehicle;)LIcehighway$Piece;"⟩
abbrev cX3_whatIsAgainst : ByteArray := prog_1_method_43_code
def yX3_whatIsAgainst : MethodName := ⟨RX3, "whatIsAgainst", "(LIcehighway$Vehicle;)I"⟩
def RX4 : String := "IcehighwayModel"
def TX4 : u_T := fun k => match k with
  | 0 => ("IcehighwayModel", "minute", "I", false)
  | 1 => ("IcehighwayModel", "cold", "I", false)
  | 2 => ("IcehighwayModel", "gap", "I", false)
  | 3 => ("IcehighwayModel", "pieces", "I", false)
  | 4 => ("IcehighwayModel", "kind", "[I", true)
  | 5 => ("IcehighwayModel", "metres", "[I", true)
  | 6 => ("IcehighwayModel", "depth", "[I", true)
  | 7 => ("IcehighwayModel", "black", "[I", true)
  | 8 => ("IcehighwayModel", "white", "[I", true)
  | 9 => ("IcehighwayModel", "water", "[I", true)
  | 10 => ("IcehighwayModel", "snow", "[I", true)
  | 11 => ("IcehighwayModel", "crack", "[I", true)
  | 12 => ("IcehighwayModel", "open", "[I", true)
  | 13 => ("IcehighwayModel", "limit", "[I", true)
  | 14 => ("IcehighwayModel", "known", "[D", true)
  | 15 => ("IcehighwayModel", "came", "[I", true)
  | 16 => ("IcehighwayModel", "vehicles", "I", false)
  | 17 => ("IcehighwayModel", "empty", "[I", true)
  | 18 => ("IcehighwayModel", "carries", "[I", true)
  | 19 => ("IcehighwayModel", "fast", "[I", true)
  | 20 => ("IcehighwayModel", "where", "[I", true)
  | 21 => ("IcehighwayModel", "at", "[I", true)
  | 22 => ("IcehighwayModel", "toMine", "[Z", true)
  | 23 => ("IcehighwayModel", "over", "[I", true)
  | 24 => ("IcehighwayModel", "load", "[I", true)
  | 25 => ("IcehighwayModel", "goods", "[I", true)
  | 26 => ("IcehighwayModel", "taken", "[I", true)
  | 27 => ("IcehighwayModel", "brought", "[I", true)
  | 28 => ("IcehighwayModel", "ordered", "[I", true)
  | _ => ("IcehighwayModel", "thrown", "I", false)
def tyX4 : Nat → FieldType := fun k => match k with
  | 0 => .int
  | 1 => .int
  | 2 => .int
  | 3 => .int
  | 4 => .array .int
  | 5 => .array .int
  | 6 => .array .int
  | 7 => .array .int
  | 8 => .array .int
  | 9 => .array .int
  | 10 => .array .int
  | 11 => .array .int
  | 12 => .array .int
  | 13 => .array .int
  | 14 => .array .double
  | 15 => .array .int
  | 16 => .int
  | 17 => .array .int
  | 18 => .array .int
  | 19 => .array .int
  | 20 => .array .int
  | 21 => .array .int
  | 22 => .array .boolean
  | 23 => .array .int
  | 24 => .array .int
  | 25 => .array .int
  | 26 => .array .int
  | 27 => .array .int
  | 28 => .array .int
  | _ => .int
abbrev wsX40 : List Cond := u_ws RX4 TX4 30
theorem nmX4 : ∀ a, a < 30 → ∀ b, b < 30 → a ≠ b → (TX4 a).2.1 ≠ (TX4 b).2.1 := by decide +kernel
theorem tyX4_ok : ∀ k, k < 30 → parseFieldDescriptor (TX4 k).2.2.1 = some (tyX4 k) := by decide +kernel
abbrev cX4_init : ByteArray := prog_6_method_1_code
def yX4_init : MethodName := ⟨RX4, "<init>", "()V"⟩
abbrev cX4_thrown : ByteArray := prog_6_method_2_code
def yX4_thrown : MethodName := ⟨RX4, "thrown", "()I"⟩
abbrev cX4_fails : ByteArray := prog_6_method_3_code
def yX4_fails : MethodName := ⟨RX4, "fails", "(I)Z"⟩
abbrev cX4_isIn : ByteArray := prog_6_method_4_code
def yX4_isIn : MethodName := ⟨RX4, "isIn", "(III)Z"⟩
abbrev cX4_isPiece : ByteArray := prog_6_method_5_code
def yX4_isPiece : MethodName := ⟨RX4, "isPiece", "(I)Z"⟩
abbrev cX4_isVehicle : ByteArray := prog_6_method_6_code
def yX4_isVehicle : MethodName := ⟨RX4, "isVehicle", "(I)Z"⟩
abbrev cX4_isGoods : ByteArray := prog_6_method_7_code
def yX4_isGoods : MethodName := ⟨RX4, "isGoods", "(I)Z"⟩
abbrev cX4_isWater : ByteArray := prog_6_method_8_code
def yX4_isWater : MethodName := ⟨RX4, "isWater", "(I)Z"⟩
abbrev cX4_piece : ByteArray := prog_6_method_9_code
def yX4_piece : MethodName := ⟨RX4, "piece", "(III)I"⟩
abbrev cX4_weather : ByteArray := prog_6_method_10_code
def yX4_weather : MethodName := ⟨RX4, "weather", "(I)I"⟩
abbrev cX4_snow : ByteArray := prog_6_method_11_code
def yX4_snow : MethodName := ⟨RX4, "snow", "(I)I"⟩
abbrev cX4_plough : ByteArray := prog_6_method_12_code
def yX4_plough : MethodName := ⟨RX4, "plough", "(I)I"⟩
abbrev cX4_flood : ByteArray := prog_6_method_13_code
def yX4_flood : MethodName := ⟨RX4, "flood", "(II)I"⟩
abbrev cX4_thick : ByteArray := prog_6_method_14_code
def yX4_thick : MethodName := ⟨RX4, "thick", "(I)D"⟩
abbrev cX4_drill : ByteArray := prog_6_method_15_code
def yX4_drill : MethodName := ⟨RX4, "drill", "(I)D"⟩
abbrev cX4_open : ByteArray := prog_6_method_16_code
def yX4_open : MethodName := ⟨RX4, "open", "(II)I"⟩
abbrev cX4_limit : ByteArray := prog_6_method_17_code
def yX4_limit : MethodName := ⟨RX4, "limit", "(II)I"⟩
abbrev cX4_gap : ByteArray := prog_6_method_18_code
def yX4_gap : MethodName := ⟨RX4, "gap", "(I)I"⟩
abbrev cX4_vehicle : ByteArray := prog_6_method_19_code
def yX4_vehicle : MethodName := ⟨RX4, "vehicle", "(III)I"⟩
abbrev cX4_weight : ByteArray := prog_6_method_20_code
def yX4_weight : MethodName := ⟨RX4, "weight", "(I)I"⟩
abbrev cX4_load : ByteArray := prog_6_method_21_code
def yX4_load : MethodName := ⟨RX4, "load", "(III)I"⟩
abbrev cX4_unloads : ByteArray := prog_6_method_22_code
def yX4_unloads : MethodName := ⟨RX4, "unloads", "(IZ)V"⟩
abbrev cX4_go : ByteArray := prog_6_method_23_code
def yX4_go : MethodName := ⟨RX4, "go", "(I)Z"⟩
abbrev cX4_isThere : ByteArray := prog_6_method_24_code
def yX4_isThere : MethodName := ⟨RX4, "isThere", "(I)Z"⟩
abbrev cX4_arrives : ByteArray := prog_6_method_25_code
def yX4_arrives : MethodName := ⟨RX4, "arrives", "(I)V"⟩
abbrev cX4_turn : ByteArray := prog_6_method_26_code
def yX4_turn : MethodName := ⟨RX4, "turn", "(I)Z"⟩
abbrev cX4_order : ByteArray := prog_6_method_27_code
def yX4_order : MethodName := ⟨RX4, "order", "(II)I"⟩
abbrev cX4_freezes : ByteArray := prog_6_method_28_code
def yX4_freezes : MethodName := ⟨RX4, "freezes", "(I)V"⟩
abbrev cX4_thaws : ByteArray := prog_6_method_29_code
def yX4_thaws : MethodName := ⟨RX4, "thaws", "(I)V"⟩
abbrev cX4_ends : ByteArray := prog_6_method_30_code
def yX4_ends : MethodName := ⟨RX4, "ends", "()V"⟩
abbrev cX4_bearsBy : ByteArray := prog_6_method_31_code
def yX4_bearsBy : MethodName := ⟨RX4, "bearsBy", "(ID)I"⟩
abbrev cX4_speedOn : ByteArray := prog_6_method_32_code
def yX4_speedOn : MethodName := ⟨RX4, "speedOn", "(II)I"⟩
abbrev cX4_minutesOn : ByteArray := prog_6_method_33_code
def yX4_minutesOn : MethodName := ⟨RX4, "minutesOn", "(II)I"⟩
abbrev cX4_weights : ByteArray := prog_6_method_34_code
def yX4_weights : MethodName := ⟨RX4, "weights", "(I)I"⟩
abbrev cX4_isMet : ByteArray := prog_6_method_35_code
def yX4_isMet : MethodName := ⟨RX4, "isMet", "(II)Z"⟩
abbrev cX4_nextPiece : ByteArray := prog_6_method_36_code
def yX4_nextPiece : MethodName := ⟨RX4, "nextPiece", "(I)I"⟩
abbrev cX4_against : ByteArray := prog_6_method_37_code
def yX4_against : MethodName := ⟨RX4, "against", "(I)I"⟩
abbrev cX4_leaves : ByteArray := prog_6_method_38_code
def yX4_leaves : MethodName := ⟨RX4, "leaves", "(I)V"⟩
abbrev cX4_comes : ByteArray := prog_6_method_39_code
def yX4_comes : MethodName := ⟨RX4, "comes", "(I)V"⟩
abbrev cX4_passes : ByteArray := prog_6_method_40_code
def yX4_passes : MethodName := ⟨RX4, "passes", "()V"⟩
abbrev cX4_pass : ByteArray := prog_6_method_41_code
def yX4_pass : MethodName := ⟨RX4, "pass", "(I)I"⟩
abbrev cX4_minute : ByteArray := prog_6_method_42_code
def yX4_minute : MethodName := ⟨RX4, "minute", "()I"⟩
abbrev cX4_told : ByteArray := prog_6_method_43_code
def yX4_told : MethodName := ⟨RX4, "told", "(II)I"⟩
abbrev cX4_many : ByteArray := prog_6_method_44_code
def yX4_many : MethodName := ⟨RX4, "many", "(I)I"⟩
abbrev cX4_thickness : ByteArray := prog_6_method_45_code
def yX4_thickness : MethodName := ⟨RX4, "thickness", "(IZ)D"⟩
abbrev cX4_bears : ByteArray := prog_6_method_46_code
def yX4_bears : MethodName := ⟨RX4, "bears", "(IZ)I"⟩
abbrev cX4_ofVehicle : ByteArray := prog_6_method_47_code
def yX4_ofVehicle : MethodName := ⟨RX4, "ofVehicle", "(II)I"⟩
abbrev cX4_why : ByteArray := prog_6_method_48_code
def yX4_why : MethodName := ⟨RX4, "why", "(I)I"⟩
abbrev cX4_speed : ByteArray := prog_6_method_49_code
def yX4_speed : MethodName := ⟨RX4, "speed", "(II)I"⟩
abbrev cX4_minutes : ByteArray := prog_6_method_50_code
def yX4_minutes : MethodName := ⟨RX4, "minutes", "(II)I"⟩
abbrev cX4_minutesAnew : ByteArray := prog_6_method_51_code
def yX4_minutesAnew : MethodName := ⟨RX4, "minutesAnew", "(II)I"⟩
abbrev cX4_carried : ByteArray := prog_6_method_52_code
def yX4_carried : MethodName := ⟨RX4, "carried", "(IZ)I"⟩
abbrev cX4_missing : ByteArray := prog_6_method_53_code
def yX4_missing : MethodName := ⟨RX4, "missing", "(I)I"⟩
abbrev cX4_kilos : ByteArray := prog_6_method_54_code
def yX4_kilos : MethodName := ⟨RX4, "kilos", "(II)I"⟩
abbrev cX4_kilosAnew : ByteArray := prog_6_method_55_code
def yX4_kilosAnew : MethodName := ⟨RX4, "kilosAnew", "(I)I"⟩
abbrev cX4_bill : ByteArray := prog_6_method_56_code
def yX4_bill : MethodName := ⟨RX4, "bill", "()J"⟩
def RJx145de : String := "java/io/Serializable"
def TJx145de : u_T := fun k => match k with
  | _ => ("", "", "", false)
def tyJx145de : Nat → FieldType := fun k => match k with
  | _ => .int
abbrev wsJx145de0 : List Cond := u_ws RJx145de TJx145de 0
theorem nmJx145de : ∀ a, a < 0 → ∀ b, b < 0 → a ≠ b → (TJx145de a).2.1 ≠ (TJx145de b).2.1 := by decide +kernel
theorem tyJx145de_ok : ∀ k, k < 0 → parseFieldDescriptor (TJx145de k).2.2.1 = some (tyJx145de k) := by decide +kernel
def RJx8e188 : String := "java/lang/Cloneable"
def TJx8e188 : u_T := fun k => match k with
  | _ => ("", "", "", false)
def tyJx8e188 : Nat → FieldType := fun k => match k with
  | _ => .int
abbrev wsJx8e1880 : List Cond := u_ws RJx8e188 TJx8e188 0
theorem nmJx8e188 : ∀ a, a < 0 → ∀ b, b < 0 → a ≠ b → (TJx8e188 a).2.1 ≠ (TJx8e188 b).2.1 := by decide +kernel
theorem tyJx8e188_ok : ∀ k, k < 0 → parseFieldDescriptor (TJx8e188 k).2.2.1 = some (tyJx8e188 k) := by decide +kernel
def RJxab1ab : String := "java/lang/Iterable"
def TJxab1ab : u_T := fun k => match k with
  | _ => ("", "", "", false)
def tyJxab1ab : Nat → FieldType := fun k => match k with
  | _ => .int
abbrev wsJxab1ab0 : List Cond := u_ws RJxab1ab TJxab1ab 0
theorem nmJxab1ab : ∀ a, a < 0 → ∀ b, b < 0 → a ≠ b → (TJxab1ab a).2.1 ≠ (TJxab1ab b).2.1 := by decide +kernel
theorem tyJxab1ab_ok : ∀ k, k < 0 → parseFieldDescriptor (TJxab1ab k).2.2.1 = some (tyJxab1ab k) := by decide +kernel
def RJ9 : String := "java/lang/Math"
def TJ9 : u_T := fun k => match k with
  | _ => ("", "", "", false)
def tyJ9 : Nat → FieldType := fun k => match k with
  | _ => .int
abbrev wsJ90 : List Cond := u_ws RJ9 TJ9 0
theorem nmJ9 : ∀ a, a < 0 → ∀ b, b < 0 → a ≠ b → (TJ9 a).2.1 ≠ (TJ9 b).2.1 := by decide +kernel
theorem tyJ9_ok : ∀ k, k < 0 → parseFieldDescriptor (TJ9 k).2.2.1 = some (tyJ9 k) := by decide +kernel
abbrev cJ9_max_7cf53 : ByteArray := prog_14_method_65_code
def yJ9_max_7cf53 : MethodName := ⟨RJ9, "max", "(II)I"⟩
abbrev cJ9_min_7cf53 : ByteArray := prog_14_method_69_code
def yJ9_min_7cf53 : MethodName := ⟨RJ9, "min", "(II)I"⟩
def RJ0 : String := "java/lang/String"
def TJ0 : u_T := fun k => match k with
  | _ => ("", "", "", false)
def tyJ0 : Nat → FieldType := fun k => match k with
  | _ => .int
abbrev wsJ00 : List Cond := u_ws RJ0 TJ0 0
theorem nmJ0 : ∀ a, a < 0 → ∀ b, b < 0 → a ≠ b → (TJ0 a).2.1 ≠ (TJ0 b).2.1 := by decide +kernel
theorem tyJ0_ok : ∀ k, k < 0 → parseFieldDescriptor (TJ0 k).2.2.1 = some (tyJ0 k) := by decide +kernel
def RJ10 : String := "java/lang/System"
def TJ10 : u_T := fun k => match k with
  | _ => ("", "", "", false)
def tyJ10 : Nat → FieldType := fun k => match k with
  | _ => .int
abbrev wsJ100 : List Cond := u_ws RJ10 TJ10 0
theorem nmJ10 : ∀ a, a < 0 → ∀ b, b < 0 → a ≠ b → (TJ10 a).2.1 ≠ (TJ10 b).2.1 := by decide +kernel
theorem tyJ10_ok : ∀ k, k < 0 → parseFieldDescriptor (TJ10 k).2.2.1 = some (tyJ10 k) := by decide +kernel
def RJxa1e45 : String := "java/util/AbstractCollection"
def TJxa1e45 : u_T := fun k => match k with
  | _ => ("", "", "", false)
def tyJxa1e45 : Nat → FieldType := fun k => match k with
  | _ => .int
abbrev wsJxa1e450 : List Cond := u_ws RJxa1e45 TJxa1e45 0
theorem nmJxa1e45 : ∀ a, a < 0 → ∀ b, b < 0 → a ≠ b → (TJxa1e45 a).2.1 ≠ (TJxa1e45 b).2.1 := by decide +kernel
theorem tyJxa1e45_ok : ∀ k, k < 0 → parseFieldDescriptor (TJxa1e45 k).2.2.1 = some (tyJxa1e45 k) := by decide +kernel
abbrev cJxa1e45_init_da8c8 : ByteArray := prog_19_method_1_code
def yJxa1e45_init_da8c8 : MethodName := ⟨RJxa1e45, "<init>", "()V"⟩
def RJxc12de : String := "java/util/AbstractList"
def TJxc12de : u_T := fun k => match k with
  | _ => ("", "", "", false)
def tyJxc12de : Nat → FieldType := fun k => match k with
  | _ => .int
abbrev wsJxc12de0 : List Cond := u_ws RJxc12de TJxc12de 0
theorem nmJxc12de : ∀ a, a < 0 → ∀ b, b < 0 → a ≠ b → (TJxc12de a).2.1 ≠ (TJxc12de b).2.1 := by decide +kernel
theorem tyJxc12de_ok : ∀ k, k < 0 → parseFieldDescriptor (TJxc12de k).2.2.1 = some (tyJxc12de k) := by decide +kernel
abbrev cJxc12de_init_da8c8 : ByteArray := prog_20_method_1_code
def yJxc12de_init_da8c8 : MethodName := ⟨RJxc12de, "<init>", "()V"⟩
def RJx4a65c : String := "java/util/ArrayList"
def TJx4a65c : u_T := fun k => match k with
  | 0 => ("java/util/AbstractList", "modCount", "I", false)
  | 1 => ("java/util/ArrayList", "elementData", "[Ljava/lang/Object;", false)
  | _ => ("java/util/ArrayList", "size", "I", false)
def tyJx4a65c : Nat → FieldType := fun k => match k with
  | 0 => .int
  | 1 => .array (.object "java/lang/Object")
  | _ => .int
abbrev wsJx4a65c0 : List Cond := u_ws RJx4a65c TJx4a65c 3
theorem nmJx4a65c : ∀ a, a < 3 → ∀ b, b < 3 → a ≠ b → (TJx4a65c a).2.1 ≠ (TJx4a65c b).2.1 := by decide +kernel
theorem tyJx4a65c_ok : ∀ k, k < 3 → parseFieldDescriptor (TJx4a65c k).2.2.1 = some (tyJx4a65c k) := by decide +kernel
abbrev cJx4a65c_init_da8c8 : ByteArray := prog_21_method_2_code
def yJx4a65c_init_da8c8 : MethodName := ⟨RJx4a65c, "<init>", "()V"⟩
abbrev cJx4a65c_grow_92f84 : ByteArray := prog_21_method_6_code
def yJx4a65c_grow_92f84 : MethodName := ⟨RJx4a65c, "grow", "(I)[Ljava/lang/Object;"⟩
abbrev cJx4a65c_grow_d5877 : ByteArray := prog_21_method_7_code
def yJx4a65c_grow_d5877 : MethodName := ⟨RJx4a65c, "grow", "()[Ljava/lang/Object;"⟩
abbrev cJx4a65c_size_8abf5 : ByteArray := prog_21_method_8_code
def yJx4a65c_size_8abf5 : MethodName := ⟨RJx4a65c, "size", "()I"⟩
abbrev cJx4a65c_isEmpty_aae02 : ByteArray := prog_21_method_9_code
def yJx4a65c_isEmpty_aae02 : MethodName := ⟨RJx4a65c, "isEmpty", "()Z"⟩
abbrev cJx4a65c_elementData_915e3 : ByteArray := prog_21_method_18_code
def yJx4a65c_elementData_915e3 : MethodName := ⟨RJx4a65c, "elementData", "(I)Ljava/lang/Object;"⟩
abbrev cJx4a65c_get_915e3 : ByteArray := prog_21_method_20_code
def yJx4a65c_get_915e3 : MethodName := ⟨RJx4a65c, "get", "(I)Ljava/lang/Object;"⟩
abbrev cJx4a65c_add_72be8 : ByteArray := prog_21_method_24_code
def yJx4a65c_add_72be8 : MethodName := ⟨RJx4a65c, "add", "(Ljava/lang/Object;[Ljava/lang/Object;I)V"⟩
abbrev cJx4a65c_add_9ea2d : ByteArray := prog_21_method_25_code
def yJx4a65c_add_9ea2d : MethodName := ⟨RJx4a65c, "add", "(Ljava/lang/Object;)Z"⟩
def RJ7 : String := "java/util/Arrays"
def TJ7 : u_T := fun k => match k with
  | _ => ("", "", "", false)
def tyJ7 : Nat → FieldType := fun k => match k with
  | _ => .int
abbrev wsJ70 : List Cond := u_ws RJ7 TJ7 0
theorem nmJ7 : ∀ a, a < 0 → ∀ b, b < 0 → a ≠ b → (TJ7 a).2.1 ≠ (TJ7 b).2.1 := by decide +kernel
theorem tyJ7_ok : ∀ k, k < 0 → parseFieldDescriptor (TJ7 k).2.2.1 = some (tyJ7 k) := by decide +kernel
abbrev cJ7_copyOf_1904c : ByteArray := prog_22_method_119_code
def yJ7_copyOf_1904c : MethodName := ⟨RJ7, "copyOf", "([Ljava/lang/Object;I)[Ljava/lang/Object;"⟩
abbrev cJ7_copyOf_6403c : ByteArray := prog_22_method_120_code
def yJ7_copyOf_6403c : MethodName := ⟨RJ7, "copyOf", "([Ljava/lang/Object;ILjava/lang/Class;)[Ljava/lang/Object;"⟩
def RJx5ef63 : String := "java/util/Collection"
def TJx5ef63 : u_T := fun k => match k with
  | _ => ("", "", "", false)
def tyJx5ef63 : Nat → FieldType := fun k => match k with
  | _ => .int
abbrev wsJx5ef630 : List Cond := u_ws RJx5ef63 TJx5ef63 0
theorem nmJx5ef63 : ∀ a, a < 0 → ∀ b, b < 0 → a ≠ b → (TJx5ef63 a).2.1 ≠ (TJx5ef63 b).2.1 := by decide +kernel
theorem tyJx5ef63_ok : ∀ k, k < 0 → parseFieldDescriptor (TJx5ef63 k).2.2.1 = some (tyJx5ef63 k) := by decide +kernel
def RJxbd725 : String := "java/util/List"
def TJxbd725 : u_T := fun k => match k with
  | _ => ("", "", "", false)
def tyJxbd725 : Nat → FieldType := fun k => match k with
  | _ => .int
abbrev wsJxbd7250 : List Cond := u_ws RJxbd725 TJxbd725 0
theorem nmJxbd725 : ∀ a, a < 0 → ∀ b, b < 0 → a ≠ b → (TJxbd725 a).2.1 ≠ (TJxbd725 b).2.1 := by decide +kernel
theorem tyJxbd725_ok : ∀ k, k < 0 → parseFieldDescriptor (TJxbd725 k).2.2.1 = some (tyJxbd725 k) := by decide +kernel
def RJ15 : String := "java/util/Objects"
def TJ15 : u_T := fun k => match k with
  | _ => ("", "", "", false)
def tyJ15 : Nat → FieldType := fun k => match k with
  | _ => .int
abbrev wsJ150 : List Cond := u_ws RJ15 TJ15 0
theorem nmJ15 : ∀ a, a < 0 → ∀ b, b < 0 → a ≠ b → (TJ15 a).2.1 ≠ (TJ15 b).2.1 := by decide +kernel
theorem tyJ15_ok : ∀ k, k < 0 → parseFieldDescriptor (TJ15 k).2.2.1 = some (tyJ15 k) := by decide +kernel
abbrev cJ15_checkIndex_7cf53 : ByteArray := prog_25_method_17_code
def yJ15_checkIndex_7cf53 : MethodName := ⟨RJ15, "checkIndex", "(II)I"⟩
def RJxf0a74 : String := "java/util/RandomAccess"
def TJxf0a74 : u_T := fun k => match k with
  | _ => ("", "", "", false)
def tyJxf0a74 : Nat → FieldType := fun k => match k with
  | _ => .int
abbrev wsJxf0a740 : List Cond := u_ws RJxf0a74 TJxf0a74 0
theorem nmJxf0a74 : ∀ a, a < 0 → ∀ b, b < 0 → a ≠ b → (TJxf0a74 a).2.1 ≠ (TJxf0a74 b).2.1 := by decide +kernel
theorem tyJxf0a74_ok : ∀ k, k < 0 → parseFieldDescriptor (TJxf0a74 k).2.2.1 = some (tyJxf0a74 k) := by decide +kernel
def RJxa66e6 : String := "java/util/SequencedCollection"
def TJxa66e6 : u_T := fun k => match k with
  | _ => ("", "", "", false)
def tyJxa66e6 : Nat → FieldType := fun k => match k with
  | _ => .int
abbrev wsJxa66e60 : List Cond := u_ws RJxa66e6 TJxa66e6 0
theorem nmJxa66e6 : ∀ a, a < 0 → ∀ b, b < 0 → a ≠ b → (TJxa66e6 a).2.1 ≠ (TJxa66e6 b).2.1 := by decide +kernel
theorem tyJxa66e6_ok : ∀ k, k < 0 → parseFieldDescriptor (TJxa66e6 k).2.2.1 = some (tyJxa66e6 k) := by decide +kernel
def RJ8 : String := "jdk/internal/util/ArraysSupport"
def TJ8 : u_T := fun k => match k with
  | _ => ("", "", "", false)
def tyJ8 : Nat → FieldType := fun k => match k with
  | _ => .int
abbrev wsJ80 : List Cond := u_ws RJ8 TJ8 0
theorem nmJ8 : ∀ a, a < 0 → ∀ b, b < 0 → a ≠ b → (TJ8 a).2.1 ≠ (TJ8 b).2.1 := by decide +kernel
theorem tyJ8_ok : ∀ k, k < 0 → parseFieldDescriptor (TJ8 k).2.2.1 = some (tyJ8 k) := by decide +kernel
abbrev cJ8_newLength_cabcc : ByteArray := prog_28_method_27_code
def yJ8_newLength_cabcc : MethodName := ⟨RJ8, "newLength", "(III)I"⟩
abbrev cJ8_hugeLength_7cf53 : ByteArray := prog_28_method_28_code
def yJ8_hugeLength_7cf53 : MethodName := ⟨RJ8, "hugeLength", "(II)I"⟩
def RJ3 : String := "jdk/internal/util/Preconditions"
def TJ3 : u_T := fun k => match k with
  | _ => ("", "", "", false)
def tyJ3 : Nat → FieldType := fun k => match k with
  | _ => .int
abbrev wsJ30 : List Cond := u_ws RJ3 TJ3 0
theorem nmJ3 : ∀ a, a < 0 → ∀ b, b < 0 → a ≠ b → (TJ3 a).2.1 ≠ (TJ3 b).2.1 := by decide +kernel
theorem tyJ3_ok : ∀ k, k < 0 → parseFieldDescriptor (TJ3 k).2.2.1 = some (tyJ3 k) := by decide +kernel
abbrev cJ3_checkIndex_8e157 : ByteArray := prog_29_method_11_code
def yJ3_checkIndex_8e157 : MethodName := ⟨RJ3, "checkIndex", "(IILjava/util/function/BiFunction;)I"⟩
def RL : String := "IcehighwayLaw"
abbrev cL_piece : ByteArray := method_3_code
def yL_piece : MethodName := ⟨RL, "piece", "(LIcehighway;III[J)I"⟩
abbrev cL_weather : ByteArray := method_4_code
def yL_weather : MethodName := ⟨RL, "weather", "(LIcehighway;I[J)I"⟩
abbrev cL_snow : ByteArray := method_5_code
def yL_snow : MethodName := ⟨RL, "snow", "(LIcehighway;I[J)I"⟩
abbrev cL_plough : ByteArray := method_6_code
def yL_plough : MethodName := ⟨RL, "plough", "(LIcehighway;I[J)I"⟩
abbrev cL_flood : ByteArray := method_7_code
def yL_flood : MethodName := ⟨RL, "flood", "(LIcehighway;II[J)I"⟩
abbrev cL_drill : ByteArray := method_8_code
def yL_drill : MethodName := ⟨RL, "drill", "(LIcehighway;I[D)I"⟩
abbrev cL_open : ByteArray := method_9_code
def yL_open : MethodName := ⟨RL, "open", "(LIcehighway;II[J)I"⟩
abbrev cL_limit : ByteArray := method_10_code
def yL_limit : MethodName := ⟨RL, "limit", "(LIcehighway;II[J)I"⟩
abbrev cL_gap : ByteArray := method_11_code
def yL_gap : MethodName := ⟨RL, "gap", "(LIcehighway;I[J)I"⟩
abbrev cL_vehicle : ByteArray := method_12_code
def yL_vehicle : MethodName := ⟨RL, "vehicle", "(LIcehighway;III[J)I"⟩
abbrev cL_load : ByteArray := method_13_code
def yL_load : MethodName := ⟨RL, "load", "(LIcehighway;III[J)I"⟩
abbrev cL_go : ByteArray := method_14_code
def yL_go : MethodName := ⟨RL, "go", "(LIcehighway;I[J)I"⟩
abbrev cL_turn : ByteArray := method_15_code
def yL_turn : MethodName := ⟨RL, "turn", "(LIcehighway;I[J)I"⟩
abbrev cL_order : ByteArray := method_16_code
def yL_order : MethodName := ⟨RL, "order", "(LIcehighway;II[J)I"⟩
abbrev cL_pass : ByteArray := method_17_code
def yL_pass : MethodName := ⟨RL, "pass", "(LIcehighway;I[J)I"⟩
abbrev cL_told : ByteArray := method_18_code
def yL_told : MethodName := ⟨RL, "told", "(LIcehighway;II[J)I"⟩
abbrev cL_thickness : ByteArray := method_19_code
def yL_thickness : MethodName := ⟨RL, "thickness", "(LIcehighway;IZ[D)I"⟩
abbrev cL_bears : ByteArray := method_20_code
def yL_bears : MethodName := ⟨RL, "bears", "(LIcehighway;IZ[J)I"⟩
abbrev cL_ofVehicle : ByteArray := method_21_code
def yL_ofVehicle : MethodName := ⟨RL, "ofVehicle", "(LIcehighway;II[J)I"⟩
abbrev cL_why : ByteArray := method_22_code
def yL_why : MethodName := ⟨RL, "why", "(LIcehighway;I[J)I"⟩
abbrev cL_speed : ByteArray := method_23_code
def yL_speed : MethodName := ⟨RL, "speed", "(LIcehighway;II[J)I"⟩
abbrev cL_minutes : ByteArray := method_24_code
def yL_minutes : MethodName := ⟨RL, "minutes", "(LIcehighway;II[J)I"⟩
abbrev cL_minutesAnew : ByteArray := method_25_code
def yL_minutesAnew : MethodName := ⟨RL, "minutesAnew", "(LIcehighway;II[J)I"⟩
abbrev cL_kilos : ByteArray := method_26_code
def yL_kilos : MethodName := ⟨RL, "kilos", "(LIcehighway;II[J)I"⟩
abbrev cL_kilosAnew : ByteArray := method_27_code
def yL_kilosAnew : MethodName := ⟨RL, "kilosAnew", "(LIcehighway;I[J)I"⟩
abbrev cL_law : ByteArray := code
def yL_law : MethodName := ⟨RL, "law", "([I)Z"⟩
abbrev vwCl : List vw_C := [(RJx4a65c, TJx4a65c, 3), (RX0, TX0, 3), (RX1, TX1, 16), (RX2, TX2, 8), (RX3, TX3, 9), (RX4, TX4, 30)]
end
section
theorem dJ9_max_7cf53_0 : decode cJ9_max_7cf53 0 = .ok (.iload_n 0, 1) := by decide +kernel
theorem dJ9_max_7cf53_1 : decode cJ9_max_7cf53 1 = .ok (.iload_n 1, 1) := by decide +kernel
theorem dJ9_max_7cf53_2 : decode cJ9_max_7cf53 2 = .ok (.if_icmp .lt 7, 3) := by decide +kernel
theorem dJ9_max_7cf53_5 : decode cJ9_max_7cf53 5 = .ok (.iload_n 0, 1) := by decide +kernel
theorem dJ9_max_7cf53_6 : decode cJ9_max_7cf53 6 = .ok (.goto 4, 3) := by decide +kernel
theorem dJ9_max_7cf53_9 : decode cJ9_max_7cf53 9 = .ok (.iload_n 1, 1) := by decide +kernel
theorem dJ9_max_7cf53_10 : decode cJ9_max_7cf53 10 = .ok (.ireturn, 1) := by decide +kernel
theorem dJ9_min_7cf53_0 : decode cJ9_min_7cf53 0 = .ok (.iload_n 0, 1) := by decide +kernel
theorem dJ9_min_7cf53_1 : decode cJ9_min_7cf53 1 = .ok (.iload_n 1, 1) := by decide +kernel
theorem dJ9_min_7cf53_2 : decode cJ9_min_7cf53 2 = .ok (.if_icmp .gt 7, 3) := by decide +kernel
theorem dJ9_min_7cf53_5 : decode cJ9_min_7cf53 5 = .ok (.iload_n 0, 1) := by decide +kernel
theorem dJ9_min_7cf53_6 : decode cJ9_min_7cf53 6 = .ok (.goto 4, 3) := by decide +kernel
theorem dJ9_min_7cf53_9 : decode cJ9_min_7cf53 9 = .ok (.iload_n 1, 1) := by decide +kernel
theorem dJ9_min_7cf53_10 : decode cJ9_min_7cf53 10 = .ok (.ireturn, 1) := by decide +kernel
theorem dJxa1e45_init_da8c8_0 : decode cJxa1e45_init_da8c8 0 = .ok (.aload_n 0, 1) := by decide +kernel
theorem dJxa1e45_init_da8c8_1 : decode cJxa1e45_init_da8c8 1 = .ok (.invokespecial 1, 3) := by decide +kernel
theorem dJxa1e45_init_da8c8_4 : decode cJxa1e45_init_da8c8 4 = .ok (.return_, 1) := by decide +kernel
theorem dJxc12de_init_da8c8_0 : decode cJxc12de_init_da8c8 0 = .ok (.aload_n 0, 1) := by decide +kernel
theorem dJxc12de_init_da8c8_1 : decode cJxc12de_init_da8c8 1 = .ok (.invokespecial 1, 3) := by decide +kernel
theorem dJxc12de_init_da8c8_4 : decode cJxc12de_init_da8c8 4 = .ok (.aload_n 0, 1) := by decide +kernel
theorem dJxc12de_init_da8c8_5 : decode cJxc12de_init_da8c8 5 = .ok (.iconst 0, 1) := by decide +kernel
theorem dJxc12de_init_da8c8_6 : decode cJxc12de_init_da8c8 6 = .ok (.putfield 7, 3) := by decide +kernel
theorem dJxc12de_init_da8c8_9 : decode cJxc12de_init_da8c8 9 = .ok (.return_, 1) := by decide +kernel
theorem dJx4a65c_init_da8c8_0 : decode cJx4a65c_init_da8c8 0 = .ok (.aload_n 0, 1) := by decide +kernel
theorem dJx4a65c_init_da8c8_1 : decode cJx4a65c_init_da8c8 1 = .ok (.invokespecial 1, 3) := by decide +kernel
theorem dJx4a65c_init_da8c8_4 : decode cJx4a65c_init_da8c8 4 = .ok (.aload_n 0, 1) := by decide +kernel
theorem dJx4a65c_init_da8c8_5 : decode cJx4a65c_init_da8c8 5 = .ok (.getstatic 39, 3) := by decide +kernel
theorem dJx4a65c_init_da8c8_8 : decode cJx4a65c_init_da8c8 8 = .ok (.putfield 9, 3) := by decide +kernel
theorem dJx4a65c_init_da8c8_11 : decode cJx4a65c_init_da8c8 11 = .ok (.return_, 1) := by decide +kernel
theorem dJx4a65c_grow_92f84_0 : decode cJx4a65c_grow_92f84 0 = .ok (.aload_n 0, 1) := by decide +kernel
theorem dJx4a65c_grow_92f84_1 : decode cJx4a65c_grow_92f84 1 = .ok (.getfield 9, 3) := by decide +kernel
theorem dJx4a65c_grow_92f84_4 : decode cJx4a65c_grow_92f84 4 = .ok (.arraylength, 1) := by decide +kernel
theorem dJx4a65c_grow_92f84_5 : decode cJx4a65c_grow_92f84 5 = .ok (.istore_n 2, 1) := by decide +kernel
theorem dJx4a65c_grow_92f84_6 : decode cJx4a65c_grow_92f84 6 = .ok (.iload_n 2, 1) := by decide +kernel
theorem dJx4a65c_grow_92f84_7 : decode cJx4a65c_grow_92f84 7 = .ok (.ifCond .gt 13, 3) := by decide +kernel
theorem dJx4a65c_grow_92f84_10 : decode cJx4a65c_grow_92f84 10 = .ok (.aload_n 0, 1) := by decide +kernel
theorem dJx4a65c_grow_92f84_11 : decode cJx4a65c_grow_92f84 11 = .ok (.getfield 9, 3) := by decide +kernel
theorem dJx4a65c_grow_92f84_14 : decode cJx4a65c_grow_92f84 14 = .ok (.getstatic 39, 3) := by decide +kernel
theorem dJx4a65c_grow_92f84_17 : decode cJx4a65c_grow_92f84 17 = .ok (.if_acmp .eq 28, 3) := by decide +kernel
theorem dJx4a65c_grow_92f84_20 : decode cJx4a65c_grow_92f84 20 = .ok (.iload_n 2, 1) := by decide +kernel
theorem dJx4a65c_grow_92f84_21 : decode cJx4a65c_grow_92f84 21 = .ok (.iload_n 1, 1) := by decide +kernel
theorem dJx4a65c_grow_92f84_22 : decode cJx4a65c_grow_92f84 22 = .ok (.iload_n 2, 1) := by decide +kernel
theorem dJx4a65c_grow_92f84_23 : decode cJx4a65c_grow_92f84 23 = .ok (.isub, 1) := by decide +kernel
theorem dJx4a65c_grow_92f84_24 : decode cJx4a65c_grow_92f84 24 = .ok (.iload_n 2, 1) := by decide +kernel
theorem dJx4a65c_grow_92f84_25 : decode cJx4a65c_grow_92f84 25 = .ok (.iconst 1, 1) := by decide +kernel
theorem dJx4a65c_grow_92f84_26 : decode cJx4a65c_grow_92f84 26 = .ok (.ishr, 1) := by decide +kernel
theorem dJx4a65c_grow_92f84_27 : decode cJx4a65c_grow_92f84 27 = .ok (.invokestatic 73, 3) := by decide +kernel
theorem dJx4a65c_grow_92f84_30 : decode cJx4a65c_grow_92f84 30 = .ok (.istore_n 3, 1) := by decide +kernel
theorem dJx4a65c_grow_92f84_31 : decode cJx4a65c_grow_92f84 31 = .ok (.aload_n 0, 1) := by decide +kernel
theorem dJx4a65c_grow_92f84_32 : decode cJx4a65c_grow_92f84 32 = .ok (.aload_n 0, 1) := by decide +kernel
theorem dJx4a65c_grow_92f84_33 : decode cJx4a65c_grow_92f84 33 = .ok (.getfield 9, 3) := by decide +kernel
theorem dJx4a65c_grow_92f84_36 : decode cJx4a65c_grow_92f84 36 = .ok (.iload_n 3, 1) := by decide +kernel
theorem dJx4a65c_grow_92f84_37 : decode cJx4a65c_grow_92f84 37 = .ok (.invokestatic 66, 3) := by decide +kernel
theorem dJx4a65c_grow_92f84_40 : decode cJx4a65c_grow_92f84 40 = .ok (.dup_x1, 1) := by decide +kernel
theorem dJx4a65c_grow_92f84_41 : decode cJx4a65c_grow_92f84 41 = .ok (.putfield 9, 3) := by decide +kernel
theorem dJx4a65c_grow_92f84_44 : decode cJx4a65c_grow_92f84 44 = .ok (.areturn, 1) := by decide +kernel
theorem dJx4a65c_grow_92f84_45 : decode cJx4a65c_grow_92f84 45 = .ok (.aload_n 0, 1) := by decide +kernel
theorem dJx4a65c_grow_92f84_46 : decode cJx4a65c_grow_92f84 46 = .ok (.bipush 10, 2) := by decide +kernel
theorem dJx4a65c_grow_92f84_48 : decode cJx4a65c_grow_92f84 48 = .ok (.iload_n 1, 1) := by decide +kernel
theorem dJx4a65c_grow_92f84_49 : decode cJx4a65c_grow_92f84 49 = .ok (.invokestatic 79, 3) := by decide +kernel
theorem dJx4a65c_grow_92f84_52 : decode cJx4a65c_grow_92f84 52 = .ok (.anewarray 7, 3) := by decide +kernel
theorem dJx4a65c_grow_92f84_55 : decode cJx4a65c_grow_92f84 55 = .ok (.dup_x1, 1) := by decide +kernel
theorem dJx4a65c_grow_92f84_56 : decode cJx4a65c_grow_92f84 56 = .ok (.putfield 9, 3) := by decide +kernel
theorem dJx4a65c_grow_92f84_59 : decode cJx4a65c_grow_92f84 59 = .ok (.areturn, 1) := by decide +kernel
theorem dJx4a65c_grow_d5877_0 : decode cJx4a65c_grow_d5877 0 = .ok (.aload_n 0, 1) := by decide +kernel
theorem dJx4a65c_grow_d5877_1 : decode cJx4a65c_grow_d5877 1 = .ok (.aload_n 0, 1) := by decide +kernel
theorem dJx4a65c_grow_d5877_2 : decode cJx4a65c_grow_d5877 2 = .ok (.getfield 48, 3) := by decide +kernel
theorem dJx4a65c_grow_d5877_5 : decode cJx4a65c_grow_d5877 5 = .ok (.iconst 1, 1) := by decide +kernel
theorem dJx4a65c_grow_d5877_6 : decode cJx4a65c_grow_d5877 6 = .ok (.iadd, 1) := by decide +kernel
theorem dJx4a65c_grow_d5877_7 : decode cJx4a65c_grow_d5877 7 = .ok (.invokevirtual 69, 3) := by decide +kernel
theorem dJx4a65c_grow_d5877_10 : decode cJx4a65c_grow_d5877 10 = .ok (.areturn, 1) := by decide +kernel
theorem dJx4a65c_size_8abf5_0 : decode cJx4a65c_size_8abf5 0 = .ok (.aload_n 0, 1) := by decide +kernel
theorem dJx4a65c_size_8abf5_1 : decode cJx4a65c_size_8abf5 1 = .ok (.getfield 48, 3) := by decide +kernel
theorem dJx4a65c_size_8abf5_4 : decode cJx4a65c_size_8abf5 4 = .ok (.ireturn, 1) := by decide +kernel
theorem dJx4a65c_isEmpty_aae02_0 : decode cJx4a65c_isEmpty_aae02 0 = .ok (.aload_n 0, 1) := by decide +kernel
theorem dJx4a65c_isEmpty_aae02_1 : decode cJx4a65c_isEmpty_aae02 1 = .ok (.getfield 48, 3) := by decide +kernel
theorem dJx4a65c_isEmpty_aae02_4 : decode cJx4a65c_isEmpty_aae02 4 = .ok (.ifCond .ne 7, 3) := by decide +kernel
theorem dJx4a65c_isEmpty_aae02_7 : decode cJx4a65c_isEmpty_aae02 7 = .ok (.iconst 1, 1) := by decide +kernel
theorem dJx4a65c_isEmpty_aae02_8 : decode cJx4a65c_isEmpty_aae02 8 = .ok (.goto 4, 3) := by decide +kernel
theorem dJx4a65c_isEmpty_aae02_11 : decode cJx4a65c_isEmpty_aae02 11 = .ok (.iconst 0, 1) := by decide +kernel
theorem dJx4a65c_isEmpty_aae02_12 : decode cJx4a65c_isEmpty_aae02 12 = .ok (.ireturn, 1) := by decide +kernel
theorem dJx4a65c_elementData_915e3_0 : decode cJx4a65c_elementData_915e3 0 = .ok (.aload_n 0, 1) := by decide +kernel
theorem dJx4a65c_elementData_915e3_1 : decode cJx4a65c_elementData_915e3 1 = .ok (.getfield 9, 3) := by decide +kernel
theorem dJx4a65c_elementData_915e3_4 : decode cJx4a65c_elementData_915e3 4 = .ok (.iload_n 1, 1) := by decide +kernel
theorem dJx4a65c_elementData_915e3_5 : decode cJx4a65c_elementData_915e3 5 = .ok (.aaload, 1) := by decide +kernel
theorem dJx4a65c_elementData_915e3_6 : decode cJx4a65c_elementData_915e3 6 = .ok (.areturn, 1) := by decide +kernel
theorem dJx4a65c_get_915e3_0 : decode cJx4a65c_get_915e3 0 = .ok (.iload_n 1, 1) := by decide +kernel
theorem dJx4a65c_get_915e3_1 : decode cJx4a65c_get_915e3 1 = .ok (.aload_n 0, 1) := by decide +kernel
theorem dJx4a65c_get_915e3_2 : decode cJx4a65c_get_915e3 2 = .ok (.getfield 48, 3) := by decide +kernel
theorem dJx4a65c_get_915e3_5 : decode cJx4a65c_get_915e3 5 = .ok (.invokestatic 118, 3) := by decide +kernel
theorem dJx4a65c_get_915e3_8 : decode cJx4a65c_get_915e3 8 = .ok (.pop, 1) := by decide +kernel
theorem dJx4a65c_get_915e3_9 : decode cJx4a65c_get_915e3 9 = .ok (.aload_n 0, 1) := by decide +kernel
theorem dJx4a65c_get_915e3_10 : decode cJx4a65c_get_915e3 10 = .ok (.iload_n 1, 1) := by decide +kernel
theorem dJx4a65c_get_915e3_11 : decode cJx4a65c_get_915e3 11 = .ok (.invokevirtual 123, 3) := by decide +kernel
theorem dJx4a65c_get_915e3_14 : decode cJx4a65c_get_915e3 14 = .ok (.areturn, 1) := by decide +kernel
theorem dJx4a65c_add_72be8_0 : decode cJx4a65c_add_72be8 0 = .ok (.iload_n 3, 1) := by decide +kernel
theorem dJx4a65c_add_72be8_1 : decode cJx4a65c_add_72be8 1 = .ok (.aload_n 2, 1) := by decide +kernel
theorem dJx4a65c_add_72be8_2 : decode cJx4a65c_add_72be8 2 = .ok (.arraylength, 1) := by decide +kernel
theorem dJx4a65c_add_72be8_3 : decode cJx4a65c_add_72be8 3 = .ok (.if_icmp .ne 8, 3) := by decide +kernel
theorem dJx4a65c_add_72be8_6 : decode cJx4a65c_add_72be8 6 = .ok (.aload_n 0, 1) := by decide +kernel
theorem dJx4a65c_add_72be8_7 : decode cJx4a65c_add_72be8 7 = .ok (.invokevirtual 129, 3) := by decide +kernel
theorem dJx4a65c_add_72be8_10 : decode cJx4a65c_add_72be8 10 = .ok (.astore_n 2, 1) := by decide +kernel
theorem dJx4a65c_add_72be8_11 : decode cJx4a65c_add_72be8 11 = .ok (.aload_n 2, 1) := by decide +kernel
theorem dJx4a65c_add_72be8_12 : decode cJx4a65c_add_72be8 12 = .ok (.iload_n 3, 1) := by decide +kernel
theorem dJx4a65c_add_72be8_13 : decode cJx4a65c_add_72be8 13 = .ok (.aload_n 1, 1) := by decide +kernel
theorem dJx4a65c_add_72be8_14 : decode cJx4a65c_add_72be8 14 = .ok (.aastore, 1) := by decide +kernel
theorem dJx4a65c_add_72be8_15 : decode cJx4a65c_add_72be8 15 = .ok (.aload_n 0, 1) := by decide +kernel
theorem dJx4a65c_add_72be8_16 : decode cJx4a65c_add_72be8 16 = .ok (.iload_n 3, 1) := by decide +kernel
theorem dJx4a65c_add_72be8_17 : decode cJx4a65c_add_72be8 17 = .ok (.iconst 1, 1) := by decide +kernel
theorem dJx4a65c_add_72be8_18 : decode cJx4a65c_add_72be8 18 = .ok (.iadd, 1) := by decide +kernel
theorem dJx4a65c_add_72be8_19 : decode cJx4a65c_add_72be8 19 = .ok (.putfield 48, 3) := by decide +kernel
theorem dJx4a65c_add_72be8_22 : decode cJx4a65c_add_72be8 22 = .ok (.return_, 1) := by decide +kernel
theorem dJx4a65c_add_9ea2d_0 : decode cJx4a65c_add_9ea2d 0 = .ok (.aload_n 0, 1) := by decide +kernel
theorem dJx4a65c_add_9ea2d_1 : decode cJx4a65c_add_9ea2d 1 = .ok (.dup, 1) := by decide +kernel
theorem dJx4a65c_add_9ea2d_2 : decode cJx4a65c_add_9ea2d 2 = .ok (.getfield 63, 3) := by decide +kernel
theorem dJx4a65c_add_9ea2d_5 : decode cJx4a65c_add_9ea2d 5 = .ok (.iconst 1, 1) := by decide +kernel
theorem dJx4a65c_add_9ea2d_6 : decode cJx4a65c_add_9ea2d 6 = .ok (.iadd, 1) := by decide +kernel
theorem dJx4a65c_add_9ea2d_7 : decode cJx4a65c_add_9ea2d 7 = .ok (.putfield 63, 3) := by decide +kernel
theorem dJx4a65c_add_9ea2d_10 : decode cJx4a65c_add_9ea2d 10 = .ok (.aload_n 0, 1) := by decide +kernel
theorem dJx4a65c_add_9ea2d_11 : decode cJx4a65c_add_9ea2d 11 = .ok (.aload_n 1, 1) := by decide +kernel
theorem dJx4a65c_add_9ea2d_12 : decode cJx4a65c_add_9ea2d 12 = .ok (.aload_n 0, 1) := by decide +kernel
theorem dJx4a65c_add_9ea2d_13 : decode cJx4a65c_add_9ea2d 13 = .ok (.getfield 9, 3) := by decide +kernel
theorem dJx4a65c_add_9ea2d_16 : decode cJx4a65c_add_9ea2d 16 = .ok (.aload_n 0, 1) := by decide +kernel
theorem dJx4a65c_add_9ea2d_17 : decode cJx4a65c_add_9ea2d 17 = .ok (.getfield 48, 3) := by decide +kernel
theorem dJx4a65c_add_9ea2d_20 : decode cJx4a65c_add_9ea2d 20 = .ok (.invokevirtual 131, 3) := by decide +kernel
theorem dJx4a65c_add_9ea2d_23 : decode cJx4a65c_add_9ea2d 23 = .ok (.iconst 1, 1) := by decide +kernel
theorem dJx4a65c_add_9ea2d_24 : decode cJx4a65c_add_9ea2d 24 = .ok (.ireturn, 1) := by decide +kernel
theorem dJ7_copyOf_1904c_0 : decode cJ7_copyOf_1904c 0 = .ok (.aload_n 0, 1) := by decide +kernel
theorem dJ7_copyOf_1904c_1 : decode cJ7_copyOf_1904c 1 = .ok (.iload_n 1, 1) := by decide +kernel
theorem dJ7_copyOf_1904c_2 : decode cJ7_copyOf_1904c 2 = .ok (.aload_n 0, 1) := by decide +kernel
theorem dJ7_copyOf_1904c_3 : decode cJ7_copyOf_1904c 3 = .ok (.invokevirtual 86, 3) := by decide +kernel
theorem dJ7_copyOf_1904c_6 : decode cJ7_copyOf_1904c 6 = .ok (.invokestatic 300, 3) := by decide +kernel
theorem dJ7_copyOf_1904c_9 : decode cJ7_copyOf_1904c 9 = .ok (.areturn, 1) := by decide +kernel
theorem dJ7_copyOf_6403c_0 : decode cJ7_copyOf_6403c 0 = .ok (.aload_n 2, 1) := by decide +kernel
theorem dJ7_copyOf_6403c_1 : decode cJ7_copyOf_6403c 1 = .ok (.ldc 110, 2) := by decide +kernel
theorem dJ7_copyOf_6403c_3 : decode cJ7_copyOf_6403c 3 = .ok (.if_acmp .ne 10, 3) := by decide +kernel
theorem dJ7_copyOf_6403c_6 : decode cJ7_copyOf_6403c 6 = .ok (.iload_n 1, 1) := by decide +kernel
theorem dJ7_copyOf_6403c_7 : decode cJ7_copyOf_6403c 7 = .ok (.anewarray 2, 3) := by decide +kernel
theorem dJ7_copyOf_6403c_10 : decode cJ7_copyOf_6403c 10 = .ok (.goto 14, 3) := by decide +kernel
theorem dJ7_copyOf_6403c_13 : decode cJ7_copyOf_6403c 13 = .ok (.aload_n 2, 1) := by decide +kernel
theorem dJ7_copyOf_6403c_14 : decode cJ7_copyOf_6403c 14 = .ok (.invokevirtual 90, 3) := by decide +kernel
theorem dJ7_copyOf_6403c_17 : decode cJ7_copyOf_6403c 17 = .ok (.iload_n 1, 1) := by decide +kernel
theorem dJ7_copyOf_6403c_18 : decode cJ7_copyOf_6403c 18 = .ok (.invokestatic 95, 3) := by decide +kernel
theorem dJ7_copyOf_6403c_21 : decode cJ7_copyOf_6403c 21 = .ok (.checkcast 110, 3) := by decide +kernel
theorem dJ7_copyOf_6403c_24 : decode cJ7_copyOf_6403c 24 = .ok (.astore_n 3, 1) := by decide +kernel
theorem dJ7_copyOf_6403c_25 : decode cJ7_copyOf_6403c 25 = .ok (.aload_n 0, 1) := by decide +kernel
theorem dJ7_copyOf_6403c_26 : decode cJ7_copyOf_6403c 26 = .ok (.iconst 0, 1) := by decide +kernel
theorem dJ7_copyOf_6403c_27 : decode cJ7_copyOf_6403c 27 = .ok (.aload_n 3, 1) := by decide +kernel
theorem dJ7_copyOf_6403c_28 : decode cJ7_copyOf_6403c 28 = .ok (.iconst 0, 1) := by decide +kernel
theorem dJ7_copyOf_6403c_29 : decode cJ7_copyOf_6403c 29 = .ok (.aload_n 0, 1) := by decide +kernel
theorem dJ7_copyOf_6403c_30 : decode cJ7_copyOf_6403c 30 = .ok (.arraylength, 1) := by decide +kernel
theorem dJ7_copyOf_6403c_31 : decode cJ7_copyOf_6403c 31 = .ok (.iload_n 1, 1) := by decide +kernel
theorem dJ7_copyOf_6403c_32 : decode cJ7_copyOf_6403c 32 = .ok (.invokestatic 304, 3) := by decide +kernel
theorem dJ7_copyOf_6403c_35 : decode cJ7_copyOf_6403c 35 = .ok (.invokestatic 150, 3) := by decide +kernel
theorem dJ7_copyOf_6403c_38 : decode cJ7_copyOf_6403c 38 = .ok (.aload_n 3, 1) := by decide +kernel
theorem dJ7_copyOf_6403c_39 : decode cJ7_copyOf_6403c 39 = .ok (.areturn, 1) := by decide +kernel
theorem dJ15_checkIndex_7cf53_0 : decode cJ15_checkIndex_7cf53 0 = .ok (.iload_n 0, 1) := by decide +kernel
theorem dJ15_checkIndex_7cf53_1 : decode cJ15_checkIndex_7cf53 1 = .ok (.iload_n 1, 1) := by decide +kernel
theorem dJ15_checkIndex_7cf53_2 : decode cJ15_checkIndex_7cf53 2 = .ok (.aconst_null, 1) := by decide +kernel
theorem dJ15_checkIndex_7cf53_3 : decode cJ15_checkIndex_7cf53 3 = .ok (.invokestatic 105, 3) := by decide +kernel
theorem dJ15_checkIndex_7cf53_6 : decode cJ15_checkIndex_7cf53 6 = .ok (.ireturn, 1) := by decide +kernel
theorem dJ8_newLength_cabcc_0 : decode cJ8_newLength_cabcc 0 = .ok (.iload_n 0, 1) := by decide +kernel
theorem dJ8_newLength_cabcc_1 : decode cJ8_newLength_cabcc 1 = .ok (.iload_n 1, 1) := by decide +kernel
theorem dJ8_newLength_cabcc_2 : decode cJ8_newLength_cabcc 2 = .ok (.iload_n 2, 1) := by decide +kernel
theorem dJ8_newLength_cabcc_3 : decode cJ8_newLength_cabcc 3 = .ok (.invokestatic 194, 3) := by decide +kernel
theorem dJ8_newLength_cabcc_6 : decode cJ8_newLength_cabcc 6 = .ok (.iadd, 1) := by decide +kernel
theorem dJ8_newLength_cabcc_7 : decode cJ8_newLength_cabcc 7 = .ok (.istore_n 3, 1) := by decide +kernel
theorem dJ8_newLength_cabcc_8 : decode cJ8_newLength_cabcc 8 = .ok (.iconst 0, 1) := by decide +kernel
theorem dJ8_newLength_cabcc_9 : decode cJ8_newLength_cabcc 9 = .ok (.iload_n 3, 1) := by decide +kernel
theorem dJ8_newLength_cabcc_10 : decode cJ8_newLength_cabcc 10 = .ok (.if_icmp .ge 11, 3) := by decide +kernel
theorem dJ8_newLength_cabcc_13 : decode cJ8_newLength_cabcc 13 = .ok (.iload_n 3, 1) := by decide +kernel
theorem dJ8_newLength_cabcc_14 : decode cJ8_newLength_cabcc 14 = .ok (.ldc 200, 2) := by decide +kernel
theorem dJ8_newLength_cabcc_16 : decode cJ8_newLength_cabcc 16 = .ok (.if_icmp .gt 5, 3) := by decide +kernel
theorem dJ8_newLength_cabcc_19 : decode cJ8_newLength_cabcc 19 = .ok (.iload_n 3, 1) := by decide +kernel
theorem dJ8_newLength_cabcc_20 : decode cJ8_newLength_cabcc 20 = .ok (.ireturn, 1) := by decide +kernel
theorem dJ8_newLength_cabcc_21 : decode cJ8_newLength_cabcc 21 = .ok (.iload_n 0, 1) := by decide +kernel
theorem dJ8_newLength_cabcc_22 : decode cJ8_newLength_cabcc 22 = .ok (.iload_n 1, 1) := by decide +kernel
theorem dJ8_newLength_cabcc_23 : decode cJ8_newLength_cabcc 23 = .ok (.invokestatic 201, 3) := by decide +kernel
theorem dJ8_newLength_cabcc_26 : decode cJ8_newLength_cabcc 26 = .ok (.ireturn, 1) := by decide +kernel
theorem dJ8_hugeLength_7cf53_0 : decode cJ8_hugeLength_7cf53 0 = .ok (.iload_n 0, 1) := by decide +kernel
theorem dJ8_hugeLength_7cf53_1 : decode cJ8_hugeLength_7cf53 1 = .ok (.iload_n 1, 1) := by decide +kernel
theorem dJ8_hugeLength_7cf53_2 : decode cJ8_hugeLength_7cf53 2 = .ok (.iadd, 1) := by decide +kernel
theorem dJ8_hugeLength_7cf53_3 : decode cJ8_hugeLength_7cf53 3 = .ok (.istore_n 2, 1) := by decide +kernel
theorem dJ8_hugeLength_7cf53_4 : decode cJ8_hugeLength_7cf53 4 = .ok (.iload_n 2, 1) := by decide +kernel
theorem dJ8_hugeLength_7cf53_5 : decode cJ8_hugeLength_7cf53 5 = .ok (.ifCond .ge 44, 3) := by decide +kernel
theorem dJ8_hugeLength_7cf53_8 : decode cJ8_hugeLength_7cf53 8 = .ok (.new 204, 3) := by decide +kernel
theorem dJ8_hugeLength_7cf53_11 : decode cJ8_hugeLength_7cf53 11 = .ok (.dup, 1) := by decide +kernel
theorem dJ8_hugeLength_7cf53_12 : decode cJ8_hugeLength_7cf53 12 = .ok (.new 89, 3) := by decide +kernel
theorem dJ8_hugeLength_7cf53_15 : decode cJ8_hugeLength_7cf53 15 = .ok (.dup, 1) := by decide +kernel
theorem dJ8_hugeLength_7cf53_16 : decode cJ8_hugeLength_7cf53 16 = .ok (.invokespecial 91, 3) := by decide +kernel
theorem dJ8_hugeLength_7cf53_19 : decode cJ8_hugeLength_7cf53 19 = .ok (.ldc 206, 2) := by decide +kernel
theorem dJ8_hugeLength_7cf53_21 : decode cJ8_hugeLength_7cf53 21 = .ok (.invokevirtual 94, 3) := by decide +kernel
theorem dJ8_hugeLength_7cf53_24 : decode cJ8_hugeLength_7cf53 24 = .ok (.iload_n 0, 1) := by decide +kernel
theorem dJ8_hugeLength_7cf53_25 : decode cJ8_hugeLength_7cf53 25 = .ok (.invokevirtual 98, 3) := by decide +kernel
theorem dJ8_hugeLength_7cf53_28 : decode cJ8_hugeLength_7cf53 28 = .ok (.ldc 208, 2) := by decide +kernel
theorem dJ8_hugeLength_7cf53_30 : decode cJ8_hugeLength_7cf53 30 = .ok (.invokevirtual 94, 3) := by decide +kernel
theorem dJ8_hugeLength_7cf53_33 : decode cJ8_hugeLength_7cf53 33 = .ok (.iload_n 1, 1) := by decide +kernel
theorem dJ8_hugeLength_7cf53_34 : decode cJ8_hugeLength_7cf53 34 = .ok (.invokevirtual 98, 3) := by decide +kernel
theorem dJ8_hugeLength_7cf53_37 : decode cJ8_hugeLength_7cf53 37 = .ok (.ldc 210, 2) := by decide +kernel
theorem dJ8_hugeLength_7cf53_39 : decode cJ8_hugeLength_7cf53 39 = .ok (.invokevirtual 94, 3) := by decide +kernel
theorem dJ8_hugeLength_7cf53_42 : decode cJ8_hugeLength_7cf53 42 = .ok (.invokevirtual 101, 3) := by decide +kernel
theorem dJ8_hugeLength_7cf53_45 : decode cJ8_hugeLength_7cf53 45 = .ok (.invokespecial 212, 3) := by decide +kernel
theorem dJ8_hugeLength_7cf53_48 : decode cJ8_hugeLength_7cf53 48 = .ok (.athrow, 1) := by decide +kernel
theorem dJ8_hugeLength_7cf53_49 : decode cJ8_hugeLength_7cf53 49 = .ok (.iload_n 2, 1) := by decide +kernel
theorem dJ8_hugeLength_7cf53_50 : decode cJ8_hugeLength_7cf53 50 = .ok (.ldc 200, 2) := by decide +kernel
theorem dJ8_hugeLength_7cf53_52 : decode cJ8_hugeLength_7cf53 52 = .ok (.if_icmp .gt 6, 3) := by decide +kernel
theorem dJ8_hugeLength_7cf53_55 : decode cJ8_hugeLength_7cf53 55 = .ok (.ldc 200, 2) := by decide +kernel
theorem dJ8_hugeLength_7cf53_57 : decode cJ8_hugeLength_7cf53 57 = .ok (.ireturn, 1) := by decide +kernel
theorem dJ8_hugeLength_7cf53_58 : decode cJ8_hugeLength_7cf53 58 = .ok (.iload_n 2, 1) := by decide +kernel
theorem dJ8_hugeLength_7cf53_59 : decode cJ8_hugeLength_7cf53 59 = .ok (.ireturn, 1) := by decide +kernel
theorem dJ3_checkIndex_8e157_0 : decode cJ3_checkIndex_8e157 0 = .ok (.iload_n 0, 1) := by decide +kernel
theorem dJ3_checkIndex_8e157_1 : decode cJ3_checkIndex_8e157 1 = .ok (.ifCond .lt 8, 3) := by decide +kernel
theorem dJ3_checkIndex_8e157_4 : decode cJ3_checkIndex_8e157 4 = .ok (.iload_n 0, 1) := by decide +kernel
theorem dJ3_checkIndex_8e157_5 : decode cJ3_checkIndex_8e157 5 = .ok (.iload_n 1, 1) := by decide +kernel
theorem dJ3_checkIndex_8e157_6 : decode cJ3_checkIndex_8e157 6 = .ok (.if_icmp .lt 10, 3) := by decide +kernel
theorem dJ3_checkIndex_8e157_9 : decode cJ3_checkIndex_8e157 9 = .ok (.aload_n 2, 1) := by decide +kernel
theorem dJ3_checkIndex_8e157_10 : decode cJ3_checkIndex_8e157 10 = .ok (.iload_n 0, 1) := by decide +kernel
theorem dJ3_checkIndex_8e157_11 : decode cJ3_checkIndex_8e157 11 = .ok (.iload_n 1, 1) := by decide +kernel
theorem dJ3_checkIndex_8e157_12 : decode cJ3_checkIndex_8e157 12 = .ok (.invokestatic 95, 3) := by decide +kernel
theorem dJ3_checkIndex_8e157_15 : decode cJ3_checkIndex_8e157 15 = .ok (.athrow, 1) := by decide +kernel
theorem dJ3_checkIndex_8e157_16 : decode cJ3_checkIndex_8e157 16 = .ok (.iload_n 0, 1) := by decide +kernel
theorem dJ3_checkIndex_8e157_17 : decode cJ3_checkIndex_8e157 17 = .ok (.ireturn, 1) := by decide +kernel
theorem dX0_init_0 : decode cX0_init 0 = .ok (.aload_n 0, 1) := by decide +kernel
theorem dX0_init_1 : decode cX0_init 1 = .ok (.invokespecial 1, 3) := by decide +kernel
theorem dX0_init_4 : decode cX0_init 4 = .ok (.aload_n 0, 1) := by decide +kernel
theorem dX0_init_5 : decode cX0_init 5 = .ok (.iconst 0, 1) := by decide +kernel
theorem dX0_init_6 : decode cX0_init 6 = .ok (.putfield 7, 3) := by decide +kernel
theorem dX0_init_9 : decode cX0_init 9 = .ok (.aload_n 0, 1) := by decide +kernel
theorem dX0_init_10 : decode cX0_init 10 = .ok (.iload_n 1, 1) := by decide +kernel
theorem dX0_init_11 : decode cX0_init 11 = .ok (.putfield 13, 3) := by decide +kernel
theorem dX0_init_14 : decode cX0_init 14 = .ok (.aload_n 0, 1) := by decide +kernel
theorem dX0_init_15 : decode cX0_init 15 = .ok (.iload_n 2, 1) := by decide +kernel
theorem dX0_init_16 : decode cX0_init 16 = .ok (.putfield 17, 3) := by decide +kernel
theorem dX0_init_19 : decode cX0_init 19 = .ok (.return_, 1) := by decide +kernel
theorem dX1_init_0 : decode cX1_init 0 = .ok (.aload_n 0, 1) := by decide +kernel
theorem dX1_init_1 : decode cX1_init 1 = .ok (.invokespecial 3, 3) := by decide +kernel
theorem dX1_init_4 : decode cX1_init 4 = .ok (.aload_n 0, 1) := by decide +kernel
theorem dX1_init_5 : decode cX1_init 5 = .ok (.iconst 0, 1) := by decide +kernel
theorem dX1_init_6 : decode cX1_init 6 = .ok (.putfield 9, 3) := by decide +kernel
theorem dX1_init_9 : decode cX1_init 9 = .ok (.aload_n 0, 1) := by decide +kernel
theorem dX1_init_10 : decode cX1_init 10 = .ok (.iconst 0, 1) := by decide +kernel
theorem dX1_init_11 : decode cX1_init 11 = .ok (.putfield 15, 3) := by decide +kernel
theorem dX1_init_14 : decode cX1_init 14 = .ok (.aload_n 0, 1) := by decide +kernel
theorem dX1_init_15 : decode cX1_init 15 = .ok (.iconst 0, 1) := by decide +kernel
theorem dX1_init_16 : decode cX1_init 16 = .ok (.putfield 18, 3) := by decide +kernel
theorem dX1_init_19 : decode cX1_init 19 = .ok (.aload_n 0, 1) := by decide +kernel
theorem dX1_init_20 : decode cX1_init 20 = .ok (.iconst 0, 1) := by decide +kernel
theorem dX1_init_21 : decode cX1_init 21 = .ok (.putfield 21, 3) := by decide +kernel
theorem dX1_init_24 : decode cX1_init 24 = .ok (.aload_n 0, 1) := by decide +kernel
theorem dX1_init_25 : decode cX1_init 25 = .ok (.iconst 0, 1) := by decide +kernel
theorem dX1_init_26 : decode cX1_init 26 = .ok (.putfield 24, 3) := by decide +kernel
theorem dX1_init_29 : decode cX1_init 29 = .ok (.aload_n 0, 1) := by decide +kernel
theorem dX1_init_30 : decode cX1_init 30 = .ok (.iconst 0, 1) := by decide +kernel
theorem dX1_init_31 : decode cX1_init 31 = .ok (.putfield 27, 3) := by decide +kernel
theorem dX1_init_34 : decode cX1_init 34 = .ok (.aload_n 0, 1) := by decide +kernel
theorem dX1_init_35 : decode cX1_init 35 = .ok (.bipush 100, 2) := by decide +kernel
theorem dX1_init_37 : decode cX1_init 37 = .ok (.putfield 30, 3) := by decide +kernel
theorem dX1_init_40 : decode cX1_init 40 = .ok (.aload_n 0, 1) := by decide +kernel
theorem dX1_init_41 : decode cX1_init 41 = .ok (.dconst 0, 1) := by decide +kernel
theorem dX1_init_42 : decode cX1_init 42 = .ok (.putfield 33, 3) := by decide +kernel
theorem dX1_init_45 : decode cX1_init 45 = .ok (.aload_n 0, 1) := by decide +kernel
theorem dX1_init_46 : decode cX1_init 46 = .ok (.iconst 0, 1) := by decide +kernel
theorem dX1_init_47 : decode cX1_init 47 = .ok (.putfield 37, 3) := by decide +kernel
theorem dX1_init_50 : decode cX1_init 50 = .ok (.aload_n 0, 1) := by decide +kernel
theorem dX1_init_51 : decode cX1_init 51 = .ok (.iconst 0, 1) := by decide +kernel
theorem dX1_init_52 : decode cX1_init 52 = .ok (.putfield 40, 3) := by decide +kernel
theorem dX1_init_55 : decode cX1_init 55 = .ok (.aload_n 0, 1) := by decide +kernel
theorem dX1_init_56 : decode cX1_init 56 = .ok (.iconst 0, 1) := by decide +kernel
theorem dX1_init_57 : decode cX1_init 57 = .ok (.putfield 43, 3) := by decide +kernel
theorem dX1_init_60 : decode cX1_init 60 = .ok (.aload_n 0, 1) := by decide +kernel
theorem dX1_init_61 : decode cX1_init 61 = .ok (.sipush (-1000), 3) := by decide +kernel
theorem dX1_init_64 : decode cX1_init 64 = .ok (.putfield 46, 3) := by decide +kernel
theorem dX1_init_67 : decode cX1_init 67 = .ok (.aload_n 0, 1) := by decide +kernel
theorem dX1_init_68 : decode cX1_init 68 = .ok (.sipush (-1000), 3) := by decide +kernel
theorem dX1_init_71 : decode cX1_init 71 = .ok (.putfield 49, 3) := by decide +kernel
theorem dX1_init_74 : decode cX1_init 74 = .ok (.aload_n 0, 1) := by decide +kernel
theorem dX1_init_75 : decode cX1_init 75 = .ok (.iload_n 1, 1) := by decide +kernel
theorem dX1_init_76 : decode cX1_init 76 = .ok (.putfield 52, 3) := by decide +kernel
theorem dX1_init_79 : decode cX1_init 79 = .ok (.aload_n 0, 1) := by decide +kernel
theorem dX1_init_80 : decode cX1_init 80 = .ok (.iload_n 2, 1) := by decide +kernel
theorem dX1_init_81 : decode cX1_init 81 = .ok (.putfield 55, 3) := by decide +kernel
theorem dX1_init_84 : decode cX1_init 84 = .ok (.aload_n 0, 1) := by decide +kernel
theorem dX1_init_85 : decode cX1_init 85 = .ok (.iload_n 3, 1) := by decide +kernel
theorem dX1_init_86 : decode cX1_init 86 = .ok (.putfield 58, 3) := by decide +kernel
theorem dX1_init_89 : decode cX1_init 89 = .ok (.return_, 1) := by decide +kernel
theorem dX1_isWaterPiece_0 : decode cX1_isWaterPiece 0 = .ok (.aload_n 0, 1) := by decide +kernel
theorem dX1_isWaterPiece_1 : decode cX1_isWaterPiece 1 = .ok (.getfield 52, 3) := by decide +kernel
theorem dX1_isWaterPiece_4 : decode cX1_isWaterPiece 4 = .ok (.iconst 2, 1) := by decide +kernel
theorem dX1_isWaterPiece_5 : decode cX1_isWaterPiece 5 = .ok (.if_icmp .eq 7, 3) := by decide +kernel
theorem dX1_isWaterPiece_8 : decode cX1_isWaterPiece 8 = .ok (.iconst 1, 1) := by decide +kernel
theorem dX1_isWaterPiece_9 : decode cX1_isWaterPiece 9 = .ok (.goto 4, 3) := by decide +kernel
theorem dX1_isWaterPiece_12 : decode cX1_isWaterPiece 12 = .ok (.iconst 0, 1) := by decide +kernel
theorem dX1_isWaterPiece_13 : decode cX1_isWaterPiece 13 = .ok (.ireturn, 1) := by decide +kernel
theorem dX1_hasIce_0 : decode cX1_hasIce 0 = .ok (.aload_n 0, 1) := by decide +kernel
theorem dX1_hasIce_1 : decode cX1_hasIce 1 = .ok (.getfield 9, 3) := by decide +kernel
theorem dX1_hasIce_4 : decode cX1_hasIce 4 = .ok (.ifCond .gt 10, 3) := by decide +kernel
theorem dX1_hasIce_7 : decode cX1_hasIce 7 = .ok (.aload_n 0, 1) := by decide +kernel
theorem dX1_hasIce_8 : decode cX1_hasIce 8 = .ok (.getfield 15, 3) := by decide +kernel
theorem dX1_hasIce_11 : decode cX1_hasIce 11 = .ok (.ifCond .le 7, 3) := by decide +kernel
theorem dX1_hasIce_14 : decode cX1_hasIce 14 = .ok (.iconst 1, 1) := by decide +kernel
theorem dX1_hasIce_15 : decode cX1_hasIce 15 = .ok (.goto 4, 3) := by decide +kernel
theorem dX1_hasIce_18 : decode cX1_hasIce 18 = .ok (.iconst 0, 1) := by decide +kernel
theorem dX1_hasIce_19 : decode cX1_hasIce 19 = .ok (.ireturn, 1) := by decide +kernel
theorem dX1_realThickness_0 : decode cX1_realThickness 0 = .ok (.aload_n 0, 1) := by decide +kernel
theorem dX1_realThickness_1 : decode cX1_realThickness 1 = .ok (.getfield 9, 3) := by decide +kernel
theorem dX1_realThickness_4 : decode cX1_realThickness 4 = .ok (.i2d, 1) := by decide +kernel
theorem dX1_realThickness_5 : decode cX1_realThickness 5 = .ok (.ldc2_w 61, 3) := by decide +kernel
theorem dX1_realThickness_8 : decode cX1_realThickness 8 = .ok (.aload_n 0, 1) := by decide +kernel
theorem dX1_realThickness_9 : decode cX1_realThickness 9 = .ok (.getfield 15, 3) := by decide +kernel
theorem dX1_realThickness_12 : decode cX1_realThickness 12 = .ok (.i2d, 1) := by decide +kernel
theorem dX1_realThickness_13 : decode cX1_realThickness 13 = .ok (.dmul, 1) := by decide +kernel
theorem dX1_realThickness_14 : decode cX1_realThickness 14 = .ok (.dadd, 1) := by decide +kernel
theorem dX1_realThickness_15 : decode cX1_realThickness 15 = .ok (.dreturn, 1) := by decide +kernel
theorem dX1_thicknessAs_0 : decode cX1_thicknessAs 0 = .ok (.iload_n 1, 1) := by decide +kernel
theorem dX1_thicknessAs_1 : decode cX1_thicknessAs 1 = .ok (.ifCond .eq 10, 3) := by decide +kernel
theorem dX1_thicknessAs_4 : decode cX1_thicknessAs 4 = .ok (.aload_n 0, 1) := by decide +kernel
theorem dX1_thicknessAs_5 : decode cX1_thicknessAs 5 = .ok (.getfield 33, 3) := by decide +kernel
theorem dX1_thicknessAs_8 : decode cX1_thicknessAs 8 = .ok (.goto 7, 3) := by decide +kernel
theorem dX1_thicknessAs_11 : decode cX1_thicknessAs 11 = .ok (.aload_n 0, 1) := by decide +kernel
theorem dX1_thicknessAs_12 : decode cX1_thicknessAs 12 = .ok (.invokevirtual 63, 3) := by decide +kernel
theorem dX1_thicknessAs_15 : decode cX1_thicknessAs 15 = .ok (.dreturn, 1) := by decide +kernel
theorem dX1_bearsAs_0 : decode cX1_bearsAs 0 = .ok (.aload_n 0, 1) := by decide +kernel
theorem dX1_bearsAs_1 : decode cX1_bearsAs 1 = .ok (.getfield 52, 3) := by decide +kernel
theorem dX1_bearsAs_4 : decode cX1_bearsAs 4 = .ok (.iconst 2, 1) := by decide +kernel
theorem dX1_bearsAs_5 : decode cX1_bearsAs 5 = .ok (.if_icmp .ne 19, 3) := by decide +kernel
theorem dX1_bearsAs_8 : decode cX1_bearsAs 8 = .ok (.aload_n 0, 1) := by decide +kernel
theorem dX1_bearsAs_9 : decode cX1_bearsAs 9 = .ok (.getfield 21, 3) := by decide +kernel
theorem dX1_bearsAs_12 : decode cX1_bearsAs 12 = .ok (.bipush 100, 2) := by decide +kernel
theorem dX1_bearsAs_14 : decode cX1_bearsAs 14 = .ok (.if_icmp .lt 8, 3) := by decide +kernel
theorem dX1_bearsAs_17 : decode cX1_bearsAs 17 = .ok (.ldc 67, 2) := by decide +kernel
theorem dX1_bearsAs_19 : decode cX1_bearsAs 19 = .ok (.goto 4, 3) := by decide +kernel
theorem dX1_bearsAs_22 : decode cX1_bearsAs 22 = .ok (.iconst 0, 1) := by decide +kernel
theorem dX1_bearsAs_23 : decode cX1_bearsAs 23 = .ok (.ireturn, 1) := by decide +kernel
theorem dX1_bearsAs_24 : decode cX1_bearsAs 24 = .ok (.aload_n 0, 1) := by decide +kernel
theorem dX1_bearsAs_25 : decode cX1_bearsAs 25 = .ok (.iload_n 1, 1) := by decide +kernel
theorem dX1_bearsAs_26 : decode cX1_bearsAs 26 = .ok (.invokevirtual 68, 3) := by decide +kernel
theorem dX1_bearsAs_29 : decode cX1_bearsAs 29 = .ok (.dstore_n 2, 1) := by decide +kernel
theorem dX1_bearsAs_30 : decode cX1_bearsAs 30 = .ok (.aload_n 0, 1) := by decide +kernel
theorem dX1_bearsAs_31 : decode cX1_bearsAs 31 = .ok (.getfield 24, 3) := by decide +kernel
theorem dX1_bearsAs_34 : decode cX1_bearsAs 34 = .ok (.ifCond .ne 7, 3) := by decide +kernel
theorem dX1_bearsAs_37 : decode cX1_bearsAs 37 = .ok (.dconst 1, 1) := by decide +kernel
theorem dX1_bearsAs_38 : decode cX1_bearsAs 38 = .ok (.goto 20, 3) := by decide +kernel
theorem dX1_bearsAs_41 : decode cX1_bearsAs 41 = .ok (.aload_n 0, 1) := by decide +kernel
theorem dX1_bearsAs_42 : decode cX1_bearsAs 42 = .ok (.getfield 24, 3) := by decide +kernel
theorem dX1_bearsAs_45 : decode cX1_bearsAs 45 = .ok (.iconst 1, 1) := by decide +kernel
theorem dX1_bearsAs_46 : decode cX1_bearsAs 46 = .ok (.if_icmp .ne 9, 3) := by decide +kernel
theorem dX1_bearsAs_49 : decode cX1_bearsAs 49 = .ok (.ldc2_w 72, 3) := by decide +kernel
theorem dX1_bearsAs_52 : decode cX1_bearsAs 52 = .ok (.goto 6, 3) := by decide +kernel
theorem dX1_bearsAs_55 : decode cX1_bearsAs 55 = .ok (.ldc2_w 61, 3) := by decide +kernel
theorem dX1_bearsAs_58 : decode cX1_bearsAs 58 = .ok (.dstore 4, 2) := by decide +kernel
theorem dX1_bearsAs_60 : decode cX1_bearsAs 60 = .ok (.ldc2_w 74, 3) := by decide +kernel
theorem dX1_bearsAs_63 : decode cX1_bearsAs 63 = .ok (.dload_n 2, 1) := by decide +kernel
theorem dX1_bearsAs_64 : decode cX1_bearsAs 64 = .ok (.dmul, 1) := by decide +kernel
theorem dX1_bearsAs_65 : decode cX1_bearsAs 65 = .ok (.dload_n 2, 1) := by decide +kernel
theorem dX1_bearsAs_66 : decode cX1_bearsAs 66 = .ok (.dmul, 1) := by decide +kernel
theorem dX1_bearsAs_67 : decode cX1_bearsAs 67 = .ok (.dload 4, 2) := by decide +kernel
theorem dX1_bearsAs_69 : decode cX1_bearsAs 69 = .ok (.dmul, 1) := by decide +kernel
theorem dX1_bearsAs_70 : decode cX1_bearsAs 70 = .ok (.d2i, 1) := by decide +kernel
theorem dX1_bearsAs_71 : decode cX1_bearsAs 71 = .ok (.ireturn, 1) := by decide +kernel
theorem dX1_freeze_0 : decode cX1_freeze 0 = .ok (.aload_n 0, 1) := by decide +kernel
theorem dX1_freeze_1 : decode cX1_freeze 1 = .ok (.getfield 52, 3) := by decide +kernel
theorem dX1_freeze_4 : decode cX1_freeze 4 = .ok (.iconst 2, 1) := by decide +kernel
theorem dX1_freeze_5 : decode cX1_freeze 5 = .ok (.if_icmp .ne 4, 3) := by decide +kernel
theorem dX1_freeze_8 : decode cX1_freeze 8 = .ok (.return_, 1) := by decide +kernel
theorem dX1_freeze_9 : decode cX1_freeze 9 = .ok (.aload_n 0, 1) := by decide +kernel
theorem dX1_freeze_10 : decode cX1_freeze 10 = .ok (.getfield 18, 3) := by decide +kernel
theorem dX1_freeze_13 : decode cX1_freeze 13 = .ok (.iconst 2, 1) := by decide +kernel
theorem dX1_freeze_14 : decode cX1_freeze 14 = .ok (.iload_n 1, 1) := by decide +kernel
theorem dX1_freeze_15 : decode cX1_freeze 15 = .ok (.imul, 1) := by decide +kernel
theorem dX1_freeze_16 : decode cX1_freeze 16 = .ok (.invokestatic 76, 3) := by decide +kernel
theorem dX1_freeze_19 : decode cX1_freeze 19 = .ok (.istore_n 2, 1) := by decide +kernel
theorem dX1_freeze_20 : decode cX1_freeze 20 = .ok (.aload_n 0, 1) := by decide +kernel
theorem dX1_freeze_21 : decode cX1_freeze 21 = .ok (.dup, 1) := by decide +kernel
theorem dX1_freeze_22 : decode cX1_freeze 22 = .ok (.getfield 18, 3) := by decide +kernel
theorem dX1_freeze_25 : decode cX1_freeze 25 = .ok (.iload_n 2, 1) := by decide +kernel
theorem dX1_freeze_26 : decode cX1_freeze 26 = .ok (.isub, 1) := by decide +kernel
theorem dX1_freeze_27 : decode cX1_freeze 27 = .ok (.putfield 18, 3) := by decide +kernel
theorem dX1_freeze_30 : decode cX1_freeze 30 = .ok (.aload_n 0, 1) := by decide +kernel
theorem dX1_freeze_31 : decode cX1_freeze 31 = .ok (.dup, 1) := by decide +kernel
theorem dX1_freeze_32 : decode cX1_freeze 32 = .ok (.getfield 15, 3) := by decide +kernel
theorem dX1_freeze_35 : decode cX1_freeze 35 = .ok (.iload_n 2, 1) := by decide +kernel
theorem dX1_freeze_36 : decode cX1_freeze 36 = .ok (.iadd, 1) := by decide +kernel
theorem dX1_freeze_37 : decode cX1_freeze 37 = .ok (.putfield 15, 3) := by decide +kernel
theorem dX1_freeze_40 : decode cX1_freeze 40 = .ok (.aload_n 0, 1) := by decide +kernel
theorem dX1_freeze_41 : decode cX1_freeze 41 = .ok (.getfield 18, 3) := by decide +kernel
theorem dX1_freeze_44 : decode cX1_freeze 44 = .ok (.ifCond .ne 17, 3) := by decide +kernel
theorem dX1_freeze_47 : decode cX1_freeze 47 = .ok (.aload_n 0, 1) := by decide +kernel
theorem dX1_freeze_48 : decode cX1_freeze 48 = .ok (.dup, 1) := by decide +kernel
theorem dX1_freeze_49 : decode cX1_freeze 49 = .ok (.getfield 9, 3) := by decide +kernel
theorem dX1_freeze_52 : decode cX1_freeze 52 = .ok (.aload_n 0, 1) := by decide +kernel
theorem dX1_freeze_53 : decode cX1_freeze 53 = .ok (.iload_n 1, 1) := by decide +kernel
theorem dX1_freeze_54 : decode cX1_freeze 54 = .ok (.invokevirtual 82, 3) := by decide +kernel
theorem dX1_freeze_57 : decode cX1_freeze 57 = .ok (.iadd, 1) := by decide +kernel
theorem dX1_freeze_58 : decode cX1_freeze 58 = .ok (.putfield 9, 3) := by decide +kernel
theorem dX1_freeze_61 : decode cX1_freeze 61 = .ok (.iload_n 1, 1) := by decide +kernel
theorem dX1_freeze_62 : decode cX1_freeze 62 = .ok (.bipush 40, 2) := by decide +kernel
theorem dX1_freeze_64 : decode cX1_freeze 64 = .ok (.if_icmp .lt 25, 3) := by decide +kernel
theorem dX1_freeze_67 : decode cX1_freeze 67 = .ok (.aload_n 0, 1) := by decide +kernel
theorem dX1_freeze_68 : decode cX1_freeze 68 = .ok (.aload_n 0, 1) := by decide +kernel
theorem dX1_freeze_69 : decode cX1_freeze 69 = .ok (.getfield 24, 3) := by decide +kernel
theorem dX1_freeze_72 : decode cX1_freeze 72 = .ok (.ifCond .ne 7, 3) := by decide +kernel
theorem dX1_freeze_75 : decode cX1_freeze 75 = .ok (.iconst 1, 1) := by decide +kernel
theorem dX1_freeze_76 : decode cX1_freeze 76 = .ok (.goto 7, 3) := by decide +kernel
theorem dX1_freeze_79 : decode cX1_freeze 79 = .ok (.aload_n 0, 1) := by decide +kernel
theorem dX1_freeze_80 : decode cX1_freeze 80 = .ok (.getfield 24, 3) := by decide +kernel
theorem dX1_freeze_83 : decode cX1_freeze 83 = .ok (.putfield 24, 3) := by decide +kernel
theorem dX1_freeze_86 : decode cX1_freeze 86 = .ok (.goto 26, 3) := by decide +kernel
theorem dX1_freeze_89 : decode cX1_freeze 89 = .ok (.iload_n 1, 1) := by decide +kernel
theorem dX1_freeze_90 : decode cX1_freeze 90 = .ok (.bipush 10, 2) := by decide +kernel
theorem dX1_freeze_92 : decode cX1_freeze 92 = .ok (.if_icmp .lt 20, 3) := by decide +kernel
theorem dX1_freeze_95 : decode cX1_freeze 95 = .ok (.aload_n 0, 1) := by decide +kernel
theorem dX1_freeze_96 : decode cX1_freeze 96 = .ok (.aload_n 0, 1) := by decide +kernel
theorem dX1_freeze_97 : decode cX1_freeze 97 = .ok (.getfield 24, 3) := by decide +kernel
theorem dX1_freeze_100 : decode cX1_freeze 100 = .ok (.iconst 2, 1) := by decide +kernel
theorem dX1_freeze_101 : decode cX1_freeze 101 = .ok (.if_icmp .ne 7, 3) := by decide +kernel
theorem dX1_freeze_104 : decode cX1_freeze 104 = .ok (.iconst 1, 1) := by decide +kernel
theorem dX1_freeze_105 : decode cX1_freeze 105 = .ok (.goto 4, 3) := by decide +kernel
theorem dX1_freeze_108 : decode cX1_freeze 108 = .ok (.iconst 0, 1) := by decide +kernel
theorem dX1_freeze_109 : decode cX1_freeze 109 = .ok (.putfield 24, 3) := by decide +kernel
theorem dX1_freeze_112 : decode cX1_freeze 112 = .ok (.return_, 1) := by decide +kernel
theorem dX1_growth_0 : decode cX1_growth 0 = .ok (.aload_n 0, 1) := by decide +kernel
theorem dX1_growth_1 : decode cX1_growth 1 = .ok (.getfield 9, 3) := by decide +kernel
theorem dX1_growth_4 : decode cX1_growth 4 = .ok (.aload_n 0, 1) := by decide +kernel
theorem dX1_growth_5 : decode cX1_growth 5 = .ok (.getfield 15, 3) := by decide +kernel
theorem dX1_growth_8 : decode cX1_growth 8 = .ok (.iadd, 1) := by decide +kernel
theorem dX1_growth_9 : decode cX1_growth 9 = .ok (.iconst 4, 1) := by decide +kernel
theorem dX1_growth_10 : decode cX1_growth 10 = .ok (.aload_n 0, 1) := by decide +kernel
theorem dX1_growth_11 : decode cX1_growth 11 = .ok (.getfield 21, 3) := by decide +kernel
theorem dX1_growth_14 : decode cX1_growth 14 = .ok (.imul, 1) := by decide +kernel
theorem dX1_growth_15 : decode cX1_growth 15 = .ok (.iadd, 1) := by decide +kernel
theorem dX1_growth_16 : decode cX1_growth 16 = .ok (.bipush 50, 2) := by decide +kernel
theorem dX1_growth_18 : decode cX1_growth 18 = .ok (.iadd, 1) := by decide +kernel
theorem dX1_growth_19 : decode cX1_growth 19 = .ok (.istore_n 2, 1) := by decide +kernel
theorem dX1_growth_20 : decode cX1_growth 20 = .ok (.iload_n 2, 1) := by decide +kernel
theorem dX1_growth_21 : decode cX1_growth 21 = .ok (.ifCond .gt 5, 3) := by decide +kernel
theorem dX1_growth_24 : decode cX1_growth 24 = .ok (.iconst 0, 1) := by decide +kernel
theorem dX1_growth_25 : decode cX1_growth 25 = .ok (.ireturn, 1) := by decide +kernel
theorem dX1_growth_26 : decode cX1_growth 26 = .ok (.sipush 400, 3) := by decide +kernel
theorem dX1_growth_29 : decode cX1_growth 29 = .ok (.iload_n 1, 1) := by decide +kernel
theorem dX1_growth_30 : decode cX1_growth 30 = .ok (.imul, 1) := by decide +kernel
theorem dX1_growth_31 : decode cX1_growth 31 = .ok (.iload_n 2, 1) := by decide +kernel
theorem dX1_growth_32 : decode cX1_growth 32 = .ok (.idiv, 1) := by decide +kernel
theorem dX1_growth_33 : decode cX1_growth 33 = .ok (.istore_n 3, 1) := by decide +kernel
theorem dX1_growth_34 : decode cX1_growth 34 = .ok (.aload_n 0, 1) := by decide +kernel
theorem dX1_growth_35 : decode cX1_growth 35 = .ok (.getfield 52, 3) := by decide +kernel
theorem dX1_growth_38 : decode cX1_growth 38 = .ok (.iconst 1, 1) := by decide +kernel
theorem dX1_growth_39 : decode cX1_growth 39 = .ok (.if_icmp .ne 13, 3) := by decide +kernel
theorem dX1_growth_42 : decode cX1_growth 42 = .ok (.iconst 0, 1) := by decide +kernel
theorem dX1_growth_43 : decode cX1_growth 43 = .ok (.iload_n 3, 1) := by decide +kernel
theorem dX1_growth_44 : decode cX1_growth 44 = .ok (.iconst 2, 1) := by decide +kernel
theorem dX1_growth_45 : decode cX1_growth 45 = .ok (.isub, 1) := by decide +kernel
theorem dX1_growth_46 : decode cX1_growth 46 = .ok (.invokestatic 86, 3) := by decide +kernel
theorem dX1_growth_49 : decode cX1_growth 49 = .ok (.goto 4, 3) := by decide +kernel
theorem dX1_growth_52 : decode cX1_growth 52 = .ok (.iload_n 3, 1) := by decide +kernel
theorem dX1_growth_53 : decode cX1_growth 53 = .ok (.ireturn, 1) := by decide +kernel
theorem dX1_thaw_0 : decode cX1_thaw 0 = .ok (.bipush 6, 2) := by decide +kernel
theorem dX1_thaw_2 : decode cX1_thaw 2 = .ok (.iload_n 1, 1) := by decide +kernel
theorem dX1_thaw_3 : decode cX1_thaw 3 = .ok (.imul, 1) := by decide +kernel
theorem dX1_thaw_4 : decode cX1_thaw 4 = .ok (.istore_n 2, 1) := by decide +kernel
theorem dX1_thaw_5 : decode cX1_thaw 5 = .ok (.aload_n 0, 1) := by decide +kernel
theorem dX1_thaw_6 : decode cX1_thaw 6 = .ok (.getfield 21, 3) := by decide +kernel
theorem dX1_thaw_9 : decode cX1_thaw 9 = .ok (.iload_n 2, 1) := by decide +kernel
theorem dX1_thaw_10 : decode cX1_thaw 10 = .ok (.invokestatic 76, 3) := by decide +kernel
theorem dX1_thaw_13 : decode cX1_thaw 13 = .ok (.istore_n 3, 1) := by decide +kernel
theorem dX1_thaw_14 : decode cX1_thaw 14 = .ok (.aload_n 0, 1) := by decide +kernel
theorem dX1_thaw_15 : decode cX1_thaw 15 = .ok (.dup, 1) := by decide +kernel
theorem dX1_thaw_16 : decode cX1_thaw 16 = .ok (.getfield 21, 3) := by decide +kernel
theorem dX1_thaw_19 : decode cX1_thaw 19 = .ok (.iload_n 3, 1) := by decide +kernel
theorem dX1_thaw_20 : decode cX1_thaw 20 = .ok (.isub, 1) := by decide +kernel
theorem dX1_thaw_21 : decode cX1_thaw 21 = .ok (.putfield 21, 3) := by decide +kernel
theorem dX1_thaw_24 : decode cX1_thaw 24 = .ok (.iload_n 2, 1) := by decide +kernel
theorem dX1_thaw_25 : decode cX1_thaw 25 = .ok (.iload_n 3, 1) := by decide +kernel
theorem dX1_thaw_26 : decode cX1_thaw 26 = .ok (.isub, 1) := by decide +kernel
theorem dX1_thaw_27 : decode cX1_thaw 27 = .ok (.istore_n 2, 1) := by decide +kernel
theorem dX1_thaw_28 : decode cX1_thaw 28 = .ok (.aload_n 0, 1) := by decide +kernel
theorem dX1_thaw_29 : decode cX1_thaw 29 = .ok (.getfield 15, 3) := by decide +kernel
theorem dX1_thaw_32 : decode cX1_thaw 32 = .ok (.iload_n 2, 1) := by decide +kernel
theorem dX1_thaw_33 : decode cX1_thaw 33 = .ok (.invokestatic 76, 3) := by decide +kernel
theorem dX1_thaw_36 : decode cX1_thaw 36 = .ok (.istore 4, 2) := by decide +kernel
theorem dX1_thaw_38 : decode cX1_thaw 38 = .ok (.aload_n 0, 1) := by decide +kernel
theorem dX1_thaw_39 : decode cX1_thaw 39 = .ok (.dup, 1) := by decide +kernel
theorem dX1_thaw_40 : decode cX1_thaw 40 = .ok (.getfield 15, 3) := by decide +kernel
theorem dX1_thaw_43 : decode cX1_thaw 43 = .ok (.iload 4, 2) := by decide +kernel
theorem dX1_thaw_45 : decode cX1_thaw 45 = .ok (.isub, 1) := by decide +kernel
theorem dX1_thaw_46 : decode cX1_thaw 46 = .ok (.putfield 15, 3) := by decide +kernel
theorem dX1_thaw_49 : decode cX1_thaw 49 = .ok (.iload_n 2, 1) := by decide +kernel
theorem dX1_thaw_50 : decode cX1_thaw 50 = .ok (.iload 4, 2) := by decide +kernel
theorem dX1_thaw_52 : decode cX1_thaw 52 = .ok (.isub, 1) := by decide +kernel
theorem dX1_thaw_53 : decode cX1_thaw 53 = .ok (.istore_n 2, 1) := by decide +kernel
theorem dX1_thaw_54 : decode cX1_thaw 54 = .ok (.aload_n 0, 1) := by decide +kernel
theorem dX1_thaw_55 : decode cX1_thaw 55 = .ok (.getfield 9, 3) := by decide +kernel
theorem dX1_thaw_58 : decode cX1_thaw 58 = .ok (.iload_n 2, 1) := by decide +kernel
theorem dX1_thaw_59 : decode cX1_thaw 59 = .ok (.invokestatic 76, 3) := by decide +kernel
theorem dX1_thaw_62 : decode cX1_thaw 62 = .ok (.istore 5, 2) := by decide +kernel
theorem dX1_thaw_64 : decode cX1_thaw 64 = .ok (.aload_n 0, 1) := by decide +kernel
theorem dX1_thaw_65 : decode cX1_thaw 65 = .ok (.dup, 1) := by decide +kernel
theorem dX1_thaw_66 : decode cX1_thaw 66 = .ok (.getfield 9, 3) := by decide +kernel
theorem dX1_thaw_69 : decode cX1_thaw 69 = .ok (.iload 5, 2) := by decide +kernel
theorem dX1_thaw_71 : decode cX1_thaw 71 = .ok (.isub, 1) := by decide +kernel
theorem dX1_thaw_72 : decode cX1_thaw 72 = .ok (.putfield 9, 3) := by decide +kernel
theorem dX1_thaw_75 : decode cX1_thaw 75 = .ok (.aload_n 0, 1) := by decide +kernel
theorem dX1_thaw_76 : decode cX1_thaw 76 = .ok (.getfield 33, 3) := by decide +kernel
theorem dX1_thaw_79 : decode cX1_thaw 79 = .ok (.iload 5, 2) := by decide +kernel
theorem dX1_thaw_81 : decode cX1_thaw 81 = .ok (.i2d, 1) := by decide +kernel
theorem dX1_thaw_82 : decode cX1_thaw 82 = .ok (.ldc2_w 61, 3) := by decide +kernel
theorem dX1_thaw_85 : decode cX1_thaw 85 = .ok (.iload 4, 2) := by decide +kernel
theorem dX1_thaw_87 : decode cX1_thaw 87 = .ok (.i2d, 1) := by decide +kernel
theorem dX1_thaw_88 : decode cX1_thaw 88 = .ok (.dmul, 1) := by decide +kernel
theorem dX1_thaw_89 : decode cX1_thaw 89 = .ok (.dadd, 1) := by decide +kernel
theorem dX1_thaw_90 : decode cX1_thaw 90 = .ok (.dsub, 1) := by decide +kernel
theorem dX1_thaw_91 : decode cX1_thaw 91 = .ok (.dstore 6, 2) := by decide +kernel
theorem dX1_thaw_93 : decode cX1_thaw 93 = .ok (.aload_n 0, 1) := by decide +kernel
theorem dX1_thaw_94 : decode cX1_thaw 94 = .ok (.dload 6, 2) := by decide +kernel
theorem dX1_thaw_96 : decode cX1_thaw 96 = .ok (.dconst 0, 1) := by decide +kernel
theorem dX1_thaw_97 : decode cX1_thaw 97 = .ok (.dcmp .g, 1) := by decide +kernel
theorem dX1_thaw_98 : decode cX1_thaw 98 = .ok (.ifCond .ge 7, 3) := by decide +kernel
theorem dX1_thaw_101 : decode cX1_thaw 101 = .ok (.dconst 0, 1) := by decide +kernel
theorem dX1_thaw_102 : decode cX1_thaw 102 = .ok (.goto 5, 3) := by decide +kernel
theorem dX1_thaw_105 : decode cX1_thaw 105 = .ok (.dload 6, 2) := by decide +kernel
theorem dX1_thaw_107 : decode cX1_thaw 107 = .ok (.putfield 33, 3) := by decide +kernel
theorem dX1_thaw_110 : decode cX1_thaw 110 = .ok (.aload_n 0, 1) := by decide +kernel
theorem dX1_thaw_111 : decode cX1_thaw 111 = .ok (.getfield 24, 3) := by decide +kernel
theorem dX1_thaw_114 : decode cX1_thaw 114 = .ok (.iconst 1, 1) := by decide +kernel
theorem dX1_thaw_115 : decode cX1_thaw 115 = .ok (.if_icmp .ne 8, 3) := by decide +kernel
theorem dX1_thaw_118 : decode cX1_thaw 118 = .ok (.aload_n 0, 1) := by decide +kernel
theorem dX1_thaw_119 : decode cX1_thaw 119 = .ok (.iconst 2, 1) := by decide +kernel
theorem dX1_thaw_120 : decode cX1_thaw 120 = .ok (.putfield 24, 3) := by decide +kernel
theorem dX1_thaw_123 : decode cX1_thaw 123 = .ok (.return_, 1) := by decide +kernel
theorem dX1_speedOf_0 : decode cX1_speedOf 0 = .ok (.aload_n 1, 1) := by decide +kernel
theorem dX1_speedOf_1 : decode cX1_speedOf 1 = .ok (.getfield 89, 3) := by decide +kernel
theorem dX1_speedOf_4 : decode cX1_speedOf 4 = .ok (.aload_n 0, 1) := by decide +kernel
theorem dX1_speedOf_5 : decode cX1_speedOf 5 = .ok (.getfield 30, 3) := by decide +kernel
theorem dX1_speedOf_8 : decode cX1_speedOf 8 = .ok (.invokestatic 76, 3) := by decide +kernel
theorem dX1_speedOf_11 : decode cX1_speedOf 11 = .ok (.istore_n 2, 1) := by decide +kernel
theorem dX1_speedOf_12 : decode cX1_speedOf 12 = .ok (.ldc2_w 94, 3) := by decide +kernel
theorem dX1_speedOf_15 : decode cX1_speedOf 15 = .ok (.aload_n 0, 1) := by decide +kernel
theorem dX1_speedOf_16 : decode cX1_speedOf 16 = .ok (.getfield 58, 3) := by decide +kernel
theorem dX1_speedOf_19 : decode cX1_speedOf 19 = .ok (.i2d, 1) := by decide +kernel
theorem dX1_speedOf_20 : decode cX1_speedOf 20 = .ok (.dmul, 1) := by decide +kernel
theorem dX1_speedOf_21 : decode cX1_speedOf 21 = .ok (.dstore_n 3, 1) := by decide +kernel
theorem dX1_speedOf_22 : decode cX1_speedOf 22 = .ok (.ldc2_w 96, 3) := by decide +kernel
theorem dX1_speedOf_25 : decode cX1_speedOf 25 = .ok (.aload_n 0, 1) := by decide +kernel
theorem dX1_speedOf_26 : decode cX1_speedOf 26 = .ok (.getfield 58, 3) := by decide +kernel
theorem dX1_speedOf_29 : decode cX1_speedOf 29 = .ok (.i2d, 1) := by decide +kernel
theorem dX1_speedOf_30 : decode cX1_speedOf 30 = .ok (.dmul, 1) := by decide +kernel
theorem dX1_speedOf_31 : decode cX1_speedOf 31 = .ok (.dstore 5, 2) := by decide +kernel
theorem dX1_speedOf_33 : decode cX1_speedOf 33 = .ok (.iload_n 2, 1) := by decide +kernel
theorem dX1_speedOf_34 : decode cX1_speedOf 34 = .ok (.iload_n 2, 1) := by decide +kernel
theorem dX1_speedOf_35 : decode cX1_speedOf 35 = .ok (.imul, 1) := by decide +kernel
theorem dX1_speedOf_36 : decode cX1_speedOf 36 = .ok (.istore 7, 2) := by decide +kernel
theorem dX1_speedOf_38 : decode cX1_speedOf 38 = .ok (.aload_n 0, 1) := by decide +kernel
theorem dX1_speedOf_39 : decode cX1_speedOf 39 = .ok (.getfield 52, 3) := by decide +kernel
theorem dX1_speedOf_42 : decode cX1_speedOf 42 = .ok (.iconst 2, 1) := by decide +kernel
theorem dX1_speedOf_43 : decode cX1_speedOf 43 = .ok (.if_icmp .eq 20, 3) := by decide +kernel
theorem dX1_speedOf_46 : decode cX1_speedOf 46 = .ok (.iload 7, 2) := by decide +kernel
theorem dX1_speedOf_48 : decode cX1_speedOf 48 = .ok (.i2d, 1) := by decide +kernel
theorem dX1_speedOf_49 : decode cX1_speedOf 49 = .ok (.dload_n 3, 1) := by decide +kernel
theorem dX1_speedOf_50 : decode cX1_speedOf 50 = .ok (.dcmp .g, 1) := by decide +kernel
theorem dX1_speedOf_51 : decode cX1_speedOf 51 = .ok (.ifCond .le 12, 3) := by decide +kernel
theorem dX1_speedOf_54 : decode cX1_speedOf 54 = .ok (.iload 7, 2) := by decide +kernel
theorem dX1_speedOf_56 : decode cX1_speedOf 56 = .ok (.i2d, 1) := by decide +kernel
theorem dX1_speedOf_57 : decode cX1_speedOf 57 = .ok (.dload 5, 2) := by decide +kernel
theorem dX1_speedOf_59 : decode cX1_speedOf 59 = .ok (.dcmp .l, 1) := by decide +kernel
theorem dX1_speedOf_60 : decode cX1_speedOf 60 = .ok (.ifCond .lt 5, 3) := by decide +kernel
theorem dX1_speedOf_63 : decode cX1_speedOf 63 = .ok (.iload_n 2, 1) := by decide +kernel
theorem dX1_speedOf_64 : decode cX1_speedOf 64 = .ok (.ireturn, 1) := by decide +kernel
theorem dX1_speedOf_65 : decode cX1_speedOf 65 = .ok (.iload_n 2, 1) := by decide +kernel
theorem dX1_speedOf_66 : decode cX1_speedOf 66 = .ok (.iconst 1, 1) := by decide +kernel
theorem dX1_speedOf_67 : decode cX1_speedOf 67 = .ok (.if_icmp .le 18, 3) := by decide +kernel
theorem dX1_speedOf_70 : decode cX1_speedOf 70 = .ok (.iload_n 2, 1) := by decide +kernel
theorem dX1_speedOf_71 : decode cX1_speedOf 71 = .ok (.iload_n 2, 1) := by decide +kernel
theorem dX1_speedOf_72 : decode cX1_speedOf 72 = .ok (.imul, 1) := by decide +kernel
theorem dX1_speedOf_73 : decode cX1_speedOf 73 = .ok (.i2d, 1) := by decide +kernel
theorem dX1_speedOf_74 : decode cX1_speedOf 74 = .ok (.dload_n 3, 1) := by decide +kernel
theorem dX1_speedOf_75 : decode cX1_speedOf 75 = .ok (.dcmp .l, 1) := by decide +kernel
theorem dX1_speedOf_76 : decode cX1_speedOf 76 = .ok (.ifCond .le 9, 3) := by decide +kernel
theorem dX1_speedOf_79 : decode cX1_speedOf 79 = .ok (.iinc 2 (-1), 3) := by decide +kernel
theorem dX1_speedOf_82 : decode cX1_speedOf 82 = .ok (.goto (-17), 3) := by decide +kernel
theorem dX1_speedOf_85 : decode cX1_speedOf 85 = .ok (.iload_n 2, 1) := by decide +kernel
theorem dX1_speedOf_86 : decode cX1_speedOf 86 = .ok (.ireturn, 1) := by decide +kernel
theorem dX1_minutesOf_0 : decode cX1_minutesOf 0 = .ok (.bipush 6, 2) := by decide +kernel
theorem dX1_minutesOf_2 : decode cX1_minutesOf 2 = .ok (.aload_n 0, 1) := by decide +kernel
theorem dX1_minutesOf_3 : decode cX1_minutesOf 3 = .ok (.aload_n 1, 1) := by decide +kernel
theorem dX1_minutesOf_4 : decode cX1_minutesOf 4 = .ok (.invokevirtual 98, 3) := by decide +kernel
theorem dX1_minutesOf_7 : decode cX1_minutesOf 7 = .ok (.imul, 1) := by decide +kernel
theorem dX1_minutesOf_8 : decode cX1_minutesOf 8 = .ok (.istore_n 2, 1) := by decide +kernel
theorem dX1_minutesOf_9 : decode cX1_minutesOf 9 = .ok (.iload_n 2, 1) := by decide +kernel
theorem dX1_minutesOf_10 : decode cX1_minutesOf 10 = .ok (.ifCond .gt 7, 3) := by decide +kernel
theorem dX1_minutesOf_13 : decode cX1_minutesOf 13 = .ok (.iconst 0, 1) := by decide +kernel
theorem dX1_minutesOf_14 : decode cX1_minutesOf 14 = .ok (.goto 13, 3) := by decide +kernel
theorem dX1_minutesOf_17 : decode cX1_minutesOf 17 = .ok (.aload_n 0, 1) := by decide +kernel
theorem dX1_minutesOf_18 : decode cX1_minutesOf 18 = .ok (.getfield 55, 3) := by decide +kernel
theorem dX1_minutesOf_21 : decode cX1_minutesOf 21 = .ok (.iload_n 2, 1) := by decide +kernel
theorem dX1_minutesOf_22 : decode cX1_minutesOf 22 = .ok (.iadd, 1) := by decide +kernel
theorem dX1_minutesOf_23 : decode cX1_minutesOf 23 = .ok (.iconst 1, 1) := by decide +kernel
theorem dX1_minutesOf_24 : decode cX1_minutesOf 24 = .ok (.isub, 1) := by decide +kernel
theorem dX1_minutesOf_25 : decode cX1_minutesOf 25 = .ok (.iload_n 2, 1) := by decide +kernel
theorem dX1_minutesOf_26 : decode cX1_minutesOf 26 = .ok (.idiv, 1) := by decide +kernel
theorem dX1_minutesOf_27 : decode cX1_minutesOf 27 = .ok (.ireturn, 1) := by decide +kernel
theorem dX1_countOn_0 : decode cX1_countOn 0 = .ok (.iload_n 1, 1) := by decide +kernel
theorem dX1_countOn_1 : decode cX1_countOn 1 = .ok (.ifCond .eq 10, 3) := by decide +kernel
theorem dX1_countOn_4 : decode cX1_countOn 4 = .ok (.aload_n 0, 1) := by decide +kernel
theorem dX1_countOn_5 : decode cX1_countOn 5 = .ok (.getfield 37, 3) := by decide +kernel
theorem dX1_countOn_8 : decode cX1_countOn 8 = .ok (.goto 7, 3) := by decide +kernel
theorem dX1_countOn_11 : decode cX1_countOn 11 = .ok (.aload_n 0, 1) := by decide +kernel
theorem dX1_countOn_12 : decode cX1_countOn 12 = .ok (.getfield 40, 3) := by decide +kernel
theorem dX1_countOn_15 : decode cX1_countOn 15 = .ok (.ireturn, 1) := by decide +kernel
theorem dX1_lastComing_0 : decode cX1_lastComing 0 = .ok (.iload_n 1, 1) := by decide +kernel
theorem dX1_lastComing_1 : decode cX1_lastComing 1 = .ok (.ifCond .eq 10, 3) := by decide +kernel
theorem dX1_lastComing_4 : decode cX1_lastComing 4 = .ok (.aload_n 0, 1) := by decide +kernel
theorem dX1_lastComing_5 : decode cX1_lastComing 5 = .ok (.getfield 46, 3) := by decide +kernel
theorem dX1_lastComing_8 : decode cX1_lastComing 8 = .ok (.goto 7, 3) := by decide +kernel
theorem dX1_lastComing_11 : decode cX1_lastComing 11 = .ok (.aload_n 0, 1) := by decide +kernel
theorem dX1_lastComing_12 : decode cX1_lastComing 12 = .ok (.getfield 49, 3) := by decide +kernel
theorem dX1_lastComing_15 : decode cX1_lastComing 15 = .ok (.ireturn, 1) := by decide +kernel
theorem dX1_noteComing_0 : decode cX1_noteComing 0 = .ok (.iload_n 1, 1) := by decide +kernel
theorem dX1_noteComing_1 : decode cX1_noteComing 1 = .ok (.ifCond .eq 11, 3) := by decide +kernel
theorem dX1_noteComing_4 : decode cX1_noteComing 4 = .ok (.aload_n 0, 1) := by decide +kernel
theorem dX1_noteComing_5 : decode cX1_noteComing 5 = .ok (.iload_n 2, 1) := by decide +kernel
theorem dX1_noteComing_6 : decode cX1_noteComing 6 = .ok (.putfield 46, 3) := by decide +kernel
theorem dX1_noteComing_9 : decode cX1_noteComing 9 = .ok (.goto 8, 3) := by decide +kernel
theorem dX1_noteComing_12 : decode cX1_noteComing 12 = .ok (.aload_n 0, 1) := by decide +kernel
theorem dX1_noteComing_13 : decode cX1_noteComing 13 = .ok (.iload_n 2, 1) := by decide +kernel
theorem dX1_noteComing_14 : decode cX1_noteComing 14 = .ok (.putfield 49, 3) := by decide +kernel
theorem dX1_noteComing_17 : decode cX1_noteComing 17 = .ok (.return_, 1) := by decide +kernel
theorem dX1_takeOn_0 : decode cX1_takeOn 0 = .ok (.aload_n 0, 1) := by decide +kernel
theorem dX1_takeOn_1 : decode cX1_takeOn 1 = .ok (.dup, 1) := by decide +kernel
theorem dX1_takeOn_2 : decode cX1_takeOn 2 = .ok (.getfield 43, 3) := by decide +kernel
theorem dX1_takeOn_5 : decode cX1_takeOn 5 = .ok (.aload_n 1, 1) := by decide +kernel
theorem dX1_takeOn_6 : decode cX1_takeOn 6 = .ok (.invokevirtual 102, 3) := by decide +kernel
theorem dX1_takeOn_9 : decode cX1_takeOn 9 = .ok (.iadd, 1) := by decide +kernel
theorem dX1_takeOn_10 : decode cX1_takeOn 10 = .ok (.putfield 43, 3) := by decide +kernel
theorem dX1_takeOn_13 : decode cX1_takeOn 13 = .ok (.aload_n 1, 1) := by decide +kernel
theorem dX1_takeOn_14 : decode cX1_takeOn 14 = .ok (.getfield 106, 3) := by decide +kernel
theorem dX1_takeOn_17 : decode cX1_takeOn 17 = .ok (.ifCond .eq 16, 3) := by decide +kernel
theorem dX1_takeOn_20 : decode cX1_takeOn 20 = .ok (.aload_n 0, 1) := by decide +kernel
theorem dX1_takeOn_21 : decode cX1_takeOn 21 = .ok (.dup, 1) := by decide +kernel
theorem dX1_takeOn_22 : decode cX1_takeOn 22 = .ok (.getfield 37, 3) := by decide +kernel
theorem dX1_takeOn_25 : decode cX1_takeOn 25 = .ok (.iconst 1, 1) := by decide +kernel
theorem dX1_takeOn_26 : decode cX1_takeOn 26 = .ok (.iadd, 1) := by decide +kernel
theorem dX1_takeOn_27 : decode cX1_takeOn 27 = .ok (.putfield 37, 3) := by decide +kernel
theorem dX1_takeOn_30 : decode cX1_takeOn 30 = .ok (.goto 13, 3) := by decide +kernel
theorem dX1_takeOn_33 : decode cX1_takeOn 33 = .ok (.aload_n 0, 1) := by decide +kernel
theorem dX1_takeOn_34 : decode cX1_takeOn 34 = .ok (.dup, 1) := by decide +kernel
theorem dX1_takeOn_35 : decode cX1_takeOn 35 = .ok (.getfield 40, 3) := by decide +kernel
theorem dX1_takeOn_38 : decode cX1_takeOn 38 = .ok (.iconst 1, 1) := by decide +kernel
theorem dX1_takeOn_39 : decode cX1_takeOn 39 = .ok (.iadd, 1) := by decide +kernel
theorem dX1_takeOn_40 : decode cX1_takeOn 40 = .ok (.putfield 40, 3) := by decide +kernel
theorem dX1_takeOn_43 : decode cX1_takeOn 43 = .ok (.return_, 1) := by decide +kernel
theorem dX1_letOff_0 : decode cX1_letOff 0 = .ok (.aload_n 1, 1) := by decide +kernel
theorem dX1_letOff_1 : decode cX1_letOff 1 = .ok (.invokevirtual 102, 3) := by decide +kernel
theorem dX1_letOff_4 : decode cX1_letOff 4 = .ok (.istore_n 2, 1) := by decide +kernel
theorem dX1_letOff_5 : decode cX1_letOff 5 = .ok (.aload_n 0, 1) := by decide +kernel
theorem dX1_letOff_6 : decode cX1_letOff 6 = .ok (.dup, 1) := by decide +kernel
theorem dX1_letOff_7 : decode cX1_letOff 7 = .ok (.getfield 43, 3) := by decide +kernel
theorem dX1_letOff_10 : decode cX1_letOff 10 = .ok (.iload_n 2, 1) := by decide +kernel
theorem dX1_letOff_11 : decode cX1_letOff 11 = .ok (.isub, 1) := by decide +kernel
theorem dX1_letOff_12 : decode cX1_letOff 12 = .ok (.putfield 43, 3) := by decide +kernel
theorem dX1_letOff_15 : decode cX1_letOff 15 = .ok (.aload_n 1, 1) := by decide +kernel
theorem dX1_letOff_16 : decode cX1_letOff 16 = .ok (.getfield 106, 3) := by decide +kernel
theorem dX1_letOff_19 : decode cX1_letOff 19 = .ok (.ifCond .eq 16, 3) := by decide +kernel
theorem dX1_letOff_22 : decode cX1_letOff 22 = .ok (.aload_n 0, 1) := by decide +kernel
theorem dX1_letOff_23 : decode cX1_letOff 23 = .ok (.dup, 1) := by decide +kernel
theorem dX1_letOff_24 : decode cX1_letOff 24 = .ok (.getfield 37, 3) := by decide +kernel
theorem dX1_letOff_27 : decode cX1_letOff 27 = .ok (.iconst 1, 1) := by decide +kernel
theorem dX1_letOff_28 : decode cX1_letOff 28 = .ok (.isub, 1) := by decide +kernel
theorem dX1_letOff_29 : decode cX1_letOff 29 = .ok (.putfield 37, 3) := by decide +kernel
theorem dX1_letOff_32 : decode cX1_letOff 32 = .ok (.goto 13, 3) := by decide +kernel
theorem dX1_letOff_35 : decode cX1_letOff 35 = .ok (.aload_n 0, 1) := by decide +kernel
theorem dX1_letOff_36 : decode cX1_letOff 36 = .ok (.dup, 1) := by decide +kernel
theorem dX1_letOff_37 : decode cX1_letOff 37 = .ok (.getfield 40, 3) := by decide +kernel
theorem dX1_letOff_40 : decode cX1_letOff 40 = .ok (.iconst 1, 1) := by decide +kernel
theorem dX1_letOff_41 : decode cX1_letOff 41 = .ok (.isub, 1) := by decide +kernel
theorem dX1_letOff_42 : decode cX1_letOff 42 = .ok (.putfield 40, 3) := by decide +kernel
theorem dX1_letOff_45 : decode cX1_letOff 45 = .ok (.aload_n 0, 1) := by decide +kernel
theorem dX1_letOff_46 : decode cX1_letOff 46 = .ok (.invokevirtual 110, 3) := by decide +kernel
theorem dX1_letOff_49 : decode cX1_letOff 49 = .ok (.ifCond .eq 21, 3) := by decide +kernel
theorem dX1_letOff_52 : decode cX1_letOff 52 = .ok (.aload_n 0, 1) := by decide +kernel
theorem dX1_letOff_53 : decode cX1_letOff 53 = .ok (.iconst 0, 1) := by decide +kernel
theorem dX1_letOff_54 : decode cX1_letOff 54 = .ok (.aload_n 0, 1) := by decide +kernel
theorem dX1_letOff_55 : decode cX1_letOff 55 = .ok (.getfield 9, 3) := by decide +kernel
theorem dX1_letOff_58 : decode cX1_letOff 58 = .ok (.iload_n 2, 1) := by decide +kernel
theorem dX1_letOff_59 : decode cX1_letOff 59 = .ok (.sipush 20000, 3) := by decide +kernel
theorem dX1_letOff_62 : decode cX1_letOff 62 = .ok (.idiv, 1) := by decide +kernel
theorem dX1_letOff_63 : decode cX1_letOff 63 = .ok (.isub, 1) := by decide +kernel
theorem dX1_letOff_64 : decode cX1_letOff 64 = .ok (.invokestatic 86, 3) := by decide +kernel
theorem dX1_letOff_67 : decode cX1_letOff 67 = .ok (.putfield 9, 3) := by decide +kernel
theorem dX1_letOff_70 : decode cX1_letOff 70 = .ok (.return_, 1) := by decide +kernel
theorem dX1_breakUp_0 : decode cX1_breakUp 0 = .ok (.aload_n 0, 1) := by decide +kernel
theorem dX1_breakUp_1 : decode cX1_breakUp 1 = .ok (.iconst 0, 1) := by decide +kernel
theorem dX1_breakUp_2 : decode cX1_breakUp 2 = .ok (.putfield 27, 3) := by decide +kernel
theorem dX1_breakUp_5 : decode cX1_breakUp 5 = .ok (.aload_n 0, 1) := by decide +kernel
theorem dX1_breakUp_6 : decode cX1_breakUp 6 = .ok (.invokevirtual 110, 3) := by decide +kernel
theorem dX1_breakUp_9 : decode cX1_breakUp 9 = .ok (.ifCond .eq 8, 3) := by decide +kernel
theorem dX1_breakUp_12 : decode cX1_breakUp 12 = .ok (.aload_n 0, 1) := by decide +kernel
theorem dX1_breakUp_13 : decode cX1_breakUp 13 = .ok (.iconst 2, 1) := by decide +kernel
theorem dX1_breakUp_14 : decode cX1_breakUp 14 = .ok (.putfield 24, 3) := by decide +kernel
theorem dX1_breakUp_17 : decode cX1_breakUp 17 = .ok (.return_, 1) := by decide +kernel
theorem dX2_init_0 : decode cX2_init 0 = .ok (.aload_n 0, 1) := by decide +kernel
theorem dX2_init_1 : decode cX2_init 1 = .ok (.invokespecial 3, 3) := by decide +kernel
theorem dX2_init_4 : decode cX2_init 4 = .ok (.aload_n 0, 1) := by decide +kernel
theorem dX2_init_5 : decode cX2_init 5 = .ok (.iconst 0, 1) := by decide +kernel
theorem dX2_init_6 : decode cX2_init 6 = .ok (.putfield 9, 3) := by decide +kernel
theorem dX2_init_9 : decode cX2_init 9 = .ok (.aload_n 0, 1) := by decide +kernel
theorem dX2_init_10 : decode cX2_init 10 = .ok (.iconst 0, 1) := by decide +kernel
theorem dX2_init_11 : decode cX2_init 11 = .ok (.putfield 15, 3) := by decide +kernel
theorem dX2_init_14 : decode cX2_init 14 = .ok (.aload_n 0, 1) := by decide +kernel
theorem dX2_init_15 : decode cX2_init 15 = .ok (.iconst 0, 1) := by decide +kernel
theorem dX2_init_16 : decode cX2_init 16 = .ok (.putfield 18, 3) := by decide +kernel
theorem dX2_init_19 : decode cX2_init 19 = .ok (.aload_n 0, 1) := by decide +kernel
theorem dX2_init_20 : decode cX2_init 20 = .ok (.iconst (-1), 1) := by decide +kernel
theorem dX2_init_21 : decode cX2_init 21 = .ok (.putfield 22, 3) := by decide +kernel
theorem dX2_init_24 : decode cX2_init 24 = .ok (.aload_n 0, 1) := by decide +kernel
theorem dX2_init_25 : decode cX2_init 25 = .ok (.aconst_null, 1) := by decide +kernel
theorem dX2_init_26 : decode cX2_init 26 = .ok (.putfield 25, 3) := by decide +kernel
theorem dX2_init_29 : decode cX2_init 29 = .ok (.aload_n 0, 1) := by decide +kernel
theorem dX2_init_30 : decode cX2_init 30 = .ok (.iload_n 1, 1) := by decide +kernel
theorem dX2_init_31 : decode cX2_init 31 = .ok (.putfield 29, 3) := by decide +kernel
theorem dX2_init_34 : decode cX2_init 34 = .ok (.aload_n 0, 1) := by decide +kernel
theorem dX2_init_35 : decode cX2_init 35 = .ok (.iload_n 2, 1) := by decide +kernel
theorem dX2_init_36 : decode cX2_init 36 = .ok (.putfield 32, 3) := by decide +kernel
theorem dX2_init_39 : decode cX2_init 39 = .ok (.aload_n 0, 1) := by decide +kernel
theorem dX2_init_40 : decode cX2_init 40 = .ok (.iload_n 3, 1) := by decide +kernel
theorem dX2_init_41 : decode cX2_init 41 = .ok (.putfield 35, 3) := by decide +kernel
theorem dX2_init_44 : decode cX2_init 44 = .ok (.return_, 1) := by decide +kernel
theorem dX2_weight_0 : decode cX2_weight 0 = .ok (.aload_n 0, 1) := by decide +kernel
theorem dX2_weight_1 : decode cX2_weight 1 = .ok (.getfield 25, 3) := by decide +kernel
theorem dX2_weight_4 : decode cX2_weight 4 = .ok (.ifnonnull 10, 3) := by decide +kernel
theorem dX2_weight_7 : decode cX2_weight 7 = .ok (.aload_n 0, 1) := by decide +kernel
theorem dX2_weight_8 : decode cX2_weight 8 = .ok (.getfield 29, 3) := by decide +kernel
theorem dX2_weight_11 : decode cX2_weight 11 = .ok (.goto 15, 3) := by decide +kernel
theorem dX2_weight_14 : decode cX2_weight 14 = .ok (.aload_n 0, 1) := by decide +kernel
theorem dX2_weight_15 : decode cX2_weight 15 = .ok (.getfield 29, 3) := by decide +kernel
theorem dX2_weight_18 : decode cX2_weight 18 = .ok (.aload_n 0, 1) := by decide +kernel
theorem dX2_weight_19 : decode cX2_weight 19 = .ok (.getfield 25, 3) := by decide +kernel
theorem dX2_weight_22 : decode cX2_weight 22 = .ok (.getfield 38, 3) := by decide +kernel
theorem dX2_weight_25 : decode cX2_weight 25 = .ok (.iadd, 1) := by decide +kernel
theorem dX2_weight_26 : decode cX2_weight 26 = .ok (.ireturn, 1) := by decide +kernel
theorem dX3_init_0 : decode cX3_init 0 = .ok (.aload_n 0, 1) := by decide +kernel
theorem dX3_init_1 : decode cX3_init 1 = .ok (.invokespecial 1, 3) := by decide +kernel
theorem dX3_init_4 : decode cX3_init 4 = .ok (.aload_n 0, 1) := by decide +kernel
theorem dX3_init_5 : decode cX3_init 5 = .ok (.new 7, 3) := by decide +kernel
theorem dX3_init_8 : decode cX3_init 8 = .ok (.dup, 1) := by decide +kernel
theorem dX3_init_9 : decode cX3_init 9 = .ok (.invokespecial 9, 3) := by decide +kernel
theorem dX3_init_12 : decode cX3_init 12 = .ok (.putfield 10, 3) := by decide +kernel
theorem dX3_init_15 : decode cX3_init 15 = .ok (.aload_n 0, 1) := by decide +kernel
theorem dX3_init_16 : decode cX3_init 16 = .ok (.new 7, 3) := by decide +kernel
theorem dX3_init_19 : decode cX3_init 19 = .ok (.dup, 1) := by decide +kernel
theorem dX3_init_20 : decode cX3_init 20 = .ok (.invokespecial 9, 3) := by decide +kernel
theorem dX3_init_23 : decode cX3_init 23 = .ok (.putfield 16, 3) := by decide +kernel
theorem dX3_init_26 : decode cX3_init 26 = .ok (.aload_n 0, 1) := by decide +kernel
theorem dX3_init_27 : decode cX3_init 27 = .ok (.new 7, 3) := by decide +kernel
theorem dX3_init_30 : decode cX3_init 30 = .ok (.dup, 1) := by decide +kernel
theorem dX3_init_31 : decode cX3_init 31 = .ok (.invokespecial 9, 3) := by decide +kernel
theorem dX3_init_34 : decode cX3_init 34 = .ok (.putfield 19, 3) := by decide +kernel
theorem dX3_init_37 : decode cX3_init 37 = .ok (.aload_n 0, 1) := by decide +kernel
theorem dX3_init_38 : decode cX3_init 38 = .ok (.iconst 3, 1) := by decide +kernel
theorem dX3_init_39 : decode cX3_init 39 = .ok (.newarray .int, 2) := by decide +kernel
theorem dX3_init_41 : decode cX3_init 41 = .ok (.putfield 22, 3) := by decide +kernel
theorem dX3_init_44 : decode cX3_init 44 = .ok (.aload_n 0, 1) := by decide +kernel
theorem dX3_init_45 : decode cX3_init 45 = .ok (.iconst 3, 1) := by decide +kernel
theorem dX3_init_46 : decode cX3_init 46 = .ok (.newarray .int, 2) := by decide +kernel
theorem dX3_init_48 : decode cX3_init 48 = .ok (.putfield 26, 3) := by decide +kernel
theorem dX3_init_51 : decode cX3_init 51 = .ok (.aload_n 0, 1) := by decide +kernel
theorem dX3_init_52 : decode cX3_init 52 = .ok (.iconst 3, 1) := by decide +kernel
theorem dX3_init_53 : decode cX3_init 53 = .ok (.newarray .int, 2) := by decide +kernel
theorem dX3_init_55 : decode cX3_init 55 = .ok (.putfield 29, 3) := by decide +kernel
theorem dX3_init_58 : decode cX3_init 58 = .ok (.aload_n 0, 1) := by decide +kernel
theorem dX3_init_59 : decode cX3_init 59 = .ok (.iconst 0, 1) := by decide +kernel
theorem dX3_init_60 : decode cX3_init 60 = .ok (.putfield 32, 3) := by decide +kernel
theorem dX3_init_63 : decode cX3_init 63 = .ok (.aload_n 0, 1) := by decide +kernel
theorem dX3_init_64 : decode cX3_init 64 = .ok (.iconst 0, 1) := by decide +kernel
theorem dX3_init_65 : decode cX3_init 65 = .ok (.putfield 36, 3) := by decide +kernel
theorem dX3_init_68 : decode cX3_init 68 = .ok (.aload_n 0, 1) := by decide +kernel
theorem dX3_init_69 : decode cX3_init 69 = .ok (.iconst 5, 1) := by decide +kernel
theorem dX3_init_70 : decode cX3_init 70 = .ok (.putfield 39, 3) := by decide +kernel
theorem dX3_init_73 : decode cX3_init 73 = .ok (.return_, 1) := by decide +kernel
theorem dX3_piece_0 : decode cX3_piece 0 = .ok (.iload_n 1, 1) := by decide +kernel
theorem dX3_piece_1 : decode cX3_piece 1 = .ok (.iconst 0, 1) := by decide +kernel
theorem dX3_piece_2 : decode cX3_piece 2 = .ok (.iconst 2, 1) := by decide +kernel
theorem dX3_piece_3 : decode cX3_piece 3 = .ok (.invokestatic 42, 3) := by decide +kernel
theorem dX3_piece_6 : decode cX3_piece 6 = .ok (.iload_n 2, 1) := by decide +kernel
theorem dX3_piece_7 : decode cX3_piece 7 = .ok (.iconst 1, 1) := by decide +kernel
theorem dX3_piece_8 : decode cX3_piece 8 = .ok (.sipush 20000, 3) := by decide +kernel
theorem dX3_piece_11 : decode cX3_piece 11 = .ok (.invokestatic 42, 3) := by decide +kernel
theorem dX3_piece_14 : decode cX3_piece 14 = .ok (.iload_n 3, 1) := by decide +kernel
theorem dX3_piece_15 : decode cX3_piece 15 = .ok (.iconst 1, 1) := by decide +kernel
theorem dX3_piece_16 : decode cX3_piece 16 = .ok (.sipush 999, 3) := by decide +kernel
theorem dX3_piece_19 : decode cX3_piece 19 = .ok (.invokestatic 42, 3) := by decide +kernel
theorem dX3_piece_22 : decode cX3_piece 22 = .ok (.aload_n 0, 1) := by decide +kernel
theorem dX3_piece_23 : decode cX3_piece 23 = .ok (.getfield 10, 3) := by decide +kernel
theorem dX3_piece_26 : decode cX3_piece 26 = .ok (.invokeinterface 46 1, 5) := by decide +kernel
theorem dX3_piece_31 : decode cX3_piece 31 = .ok (.bipush 10, 2) := by decide +kernel
theorem dX3_piece_33 : decode cX3_piece 33 = .ok (.if_icmp .ge 15, 3) := by decide +kernel
theorem dX3_piece_36 : decode cX3_piece 36 = .ok (.aload_n 0, 1) := by decide +kernel
theorem dX3_piece_37 : decode cX3_piece 37 = .ok (.getfield 16, 3) := by decide +kernel
theorem dX3_piece_40 : decode cX3_piece 40 = .ok (.invokeinterface 52 1, 5) := by decide +kernel
theorem dX3_piece_45 : decode cX3_piece 45 = .ok (.ifCond .ne 13, 3) := by decide +kernel
theorem dX3_piece_48 : decode cX3_piece 48 = .ok (.new 56, 3) := by decide +kernel
theorem dX3_piece_51 : decode cX3_piece 51 = .ok (.dup, 1) := by decide +kernel
theorem dX3_piece_52 : decode cX3_piece 52 = .ok (.ldc 58, 2) := by decide +kernel
theorem dX3_piece_54 : decode cX3_piece 54 = .ok (.invokespecial 60, 3) := by decide +kernel
theorem dX3_piece_57 : decode cX3_piece 57 = .ok (.athrow, 1) := by decide +kernel
theorem dX3_piece_58 : decode cX3_piece 58 = .ok (.aload_n 0, 1) := by decide +kernel
theorem dX3_piece_59 : decode cX3_piece 59 = .ok (.getfield 10, 3) := by decide +kernel
theorem dX3_piece_62 : decode cX3_piece 62 = .ok (.new 63, 3) := by decide +kernel
theorem dX3_piece_65 : decode cX3_piece 65 = .ok (.dup, 1) := by decide +kernel
theorem dX3_piece_66 : decode cX3_piece 66 = .ok (.iload_n 1, 1) := by decide +kernel
theorem dX3_piece_67 : decode cX3_piece 67 = .ok (.iload_n 2, 1) := by decide +kernel
theorem dX3_piece_68 : decode cX3_piece 68 = .ok (.iload_n 3, 1) := by decide +kernel
theorem dX3_piece_69 : decode cX3_piece 69 = .ok (.invokespecial 65, 3) := by decide +kernel
theorem dX3_piece_72 : decode cX3_piece 72 = .ok (.invokeinterface 67 2, 5) := by decide +kernel
theorem dX3_piece_77 : decode cX3_piece 77 = .ok (.pop, 1) := by decide +kernel
theorem dX3_piece_78 : decode cX3_piece 78 = .ok (.aload_n 0, 1) := by decide +kernel
theorem dX3_piece_79 : decode cX3_piece 79 = .ok (.getfield 10, 3) := by decide +kernel
theorem dX3_piece_82 : decode cX3_piece 82 = .ok (.invokeinterface 46 1, 5) := by decide +kernel
theorem dX3_piece_87 : decode cX3_piece 87 = .ok (.iconst 1, 1) := by decide +kernel
theorem dX3_piece_88 : decode cX3_piece 88 = .ok (.isub, 1) := by decide +kernel
theorem dX3_piece_89 : decode cX3_piece 89 = .ok (.ireturn, 1) := by decide +kernel
theorem dX3_weather_0 : decode cX3_weather 0 = .ok (.iload_n 1, 1) := by decide +kernel
theorem dX3_weather_1 : decode cX3_weather 1 = .ok (.bipush (-20), 2) := by decide +kernel
theorem dX3_weather_3 : decode cX3_weather 3 = .ok (.bipush 60, 2) := by decide +kernel
theorem dX3_weather_5 : decode cX3_weather 5 = .ok (.invokestatic 42, 3) := by decide +kernel
theorem dX3_weather_8 : decode cX3_weather 8 = .ok (.aload_n 0, 1) := by decide +kernel
theorem dX3_weather_9 : decode cX3_weather 9 = .ok (.getfield 36, 3) := by decide +kernel
theorem dX3_weather_12 : decode cX3_weather 12 = .ok (.istore_n 2, 1) := by decide +kernel
theorem dX3_weather_13 : decode cX3_weather 13 = .ok (.aload_n 0, 1) := by decide +kernel
theorem dX3_weather_14 : decode cX3_weather 14 = .ok (.iload_n 1, 1) := by decide +kernel
theorem dX3_weather_15 : decode cX3_weather 15 = .ok (.putfield 36, 3) := by decide +kernel
theorem dX3_weather_18 : decode cX3_weather 18 = .ok (.iload_n 2, 1) := by decide +kernel
theorem dX3_weather_19 : decode cX3_weather 19 = .ok (.ireturn, 1) := by decide +kernel
theorem dX3_snow_0 : decode cX3_snow 0 = .ok (.iload_n 1, 1) := by decide +kernel
theorem dX3_snow_1 : decode cX3_snow 1 = .ok (.iconst 1, 1) := by decide +kernel
theorem dX3_snow_2 : decode cX3_snow 2 = .ok (.sipush 500, 3) := by decide +kernel
theorem dX3_snow_5 : decode cX3_snow 5 = .ok (.invokestatic 42, 3) := by decide +kernel
theorem dX3_snow_8 : decode cX3_snow 8 = .ok (.iconst 0, 1) := by decide +kernel
theorem dX3_snow_9 : decode cX3_snow 9 = .ok (.istore_n 2, 1) := by decide +kernel
theorem dX3_snow_10 : decode cX3_snow 10 = .ok (.iload_n 2, 1) := by decide +kernel
theorem dX3_snow_11 : decode cX3_snow 11 = .ok (.aload_n 0, 1) := by decide +kernel
theorem dX3_snow_12 : decode cX3_snow 12 = .ok (.getfield 10, 3) := by decide +kernel
theorem dX3_snow_15 : decode cX3_snow 15 = .ok (.invokeinterface 46 1, 5) := by decide +kernel
theorem dX3_snow_20 : decode cX3_snow 20 = .ok (.if_icmp .ge 31, 3) := by decide +kernel
theorem dX3_snow_23 : decode cX3_snow 23 = .ok (.aload_n 0, 1) := by decide +kernel
theorem dX3_snow_24 : decode cX3_snow 24 = .ok (.getfield 10, 3) := by decide +kernel
theorem dX3_snow_27 : decode cX3_snow 27 = .ok (.iload_n 2, 1) := by decide +kernel
theorem dX3_snow_28 : decode cX3_snow 28 = .ok (.invokeinterface 71 2, 5) := by decide +kernel
theorem dX3_snow_33 : decode cX3_snow 33 = .ok (.checkcast 63, 3) := by decide +kernel
theorem dX3_snow_36 : decode cX3_snow 36 = .ok (.dup, 1) := by decide +kernel
theorem dX3_snow_37 : decode cX3_snow 37 = .ok (.getfield 75, 3) := by decide +kernel
theorem dX3_snow_40 : decode cX3_snow 40 = .ok (.iload_n 1, 1) := by decide +kernel
theorem dX3_snow_41 : decode cX3_snow 41 = .ok (.iadd, 1) := by decide +kernel
theorem dX3_snow_42 : decode cX3_snow 42 = .ok (.putfield 75, 3) := by decide +kernel
theorem dX3_snow_45 : decode cX3_snow 45 = .ok (.iinc 2 1, 3) := by decide +kernel
theorem dX3_snow_48 : decode cX3_snow 48 = .ok (.goto (-38), 3) := by decide +kernel
theorem dX3_snow_51 : decode cX3_snow 51 = .ok (.aload_n 0, 1) := by decide +kernel
theorem dX3_snow_52 : decode cX3_snow 52 = .ok (.getfield 10, 3) := by decide +kernel
theorem dX3_snow_55 : decode cX3_snow 55 = .ok (.invokeinterface 46 1, 5) := by decide +kernel
theorem dX3_snow_60 : decode cX3_snow 60 = .ok (.ireturn, 1) := by decide +kernel
theorem dX3_plough_0 : decode cX3_plough 0 = .ok (.aload_n 0, 1) := by decide +kernel
theorem dX3_plough_1 : decode cX3_plough 1 = .ok (.iload_n 1, 1) := by decide +kernel
theorem dX3_plough_2 : decode cX3_plough 2 = .ok (.invokevirtual 78, 3) := by decide +kernel
theorem dX3_plough_5 : decode cX3_plough 5 = .ok (.astore_n 2, 1) := by decide +kernel
theorem dX3_plough_6 : decode cX3_plough 6 = .ok (.aload_n 2, 1) := by decide +kernel
theorem dX3_plough_7 : decode cX3_plough 7 = .ok (.getfield 75, 3) := by decide +kernel
theorem dX3_plough_10 : decode cX3_plough 10 = .ok (.istore_n 3, 1) := by decide +kernel
theorem dX3_plough_11 : decode cX3_plough 11 = .ok (.aload_n 2, 1) := by decide +kernel
theorem dX3_plough_12 : decode cX3_plough 12 = .ok (.iconst 0, 1) := by decide +kernel
theorem dX3_plough_13 : decode cX3_plough 13 = .ok (.putfield 75, 3) := by decide +kernel
theorem dX3_plough_16 : decode cX3_plough 16 = .ok (.iload_n 3, 1) := by decide +kernel
theorem dX3_plough_17 : decode cX3_plough 17 = .ok (.ireturn, 1) := by decide +kernel
theorem dX3_flood_0 : decode cX3_flood 0 = .ok (.aload_n 0, 1) := by decide +kernel
theorem dX3_flood_1 : decode cX3_flood 1 = .ok (.iload_n 1, 1) := by decide +kernel
theorem dX3_flood_2 : decode cX3_flood 2 = .ok (.invokevirtual 78, 3) := by decide +kernel
theorem dX3_flood_5 : decode cX3_flood 5 = .ok (.astore_n 3, 1) := by decide +kernel
theorem dX3_flood_6 : decode cX3_flood 6 = .ok (.iload_n 2, 1) := by decide +kernel
theorem dX3_flood_7 : decode cX3_flood 7 = .ok (.iconst 1, 1) := by decide +kernel
theorem dX3_flood_8 : decode cX3_flood 8 = .ok (.bipush 100, 2) := by decide +kernel
theorem dX3_flood_10 : decode cX3_flood 10 = .ok (.invokestatic 42, 3) := by decide +kernel
theorem dX3_flood_13 : decode cX3_flood 13 = .ok (.aload_n 3, 1) := by decide +kernel
theorem dX3_flood_14 : decode cX3_flood 14 = .ok (.invokevirtual 82, 3) := by decide +kernel
theorem dX3_flood_17 : decode cX3_flood 17 = .ok (.ifCond .eq 22, 3) := by decide +kernel
theorem dX3_flood_20 : decode cX3_flood 20 = .ok (.aload_n 3, 1) := by decide +kernel
theorem dX3_flood_21 : decode cX3_flood 21 = .ok (.invokevirtual 85, 3) := by decide +kernel
theorem dX3_flood_24 : decode cX3_flood 24 = .ok (.ifCond .eq 15, 3) := by decide +kernel
theorem dX3_flood_27 : decode cX3_flood 27 = .ok (.aload_n 3, 1) := by decide +kernel
theorem dX3_flood_28 : decode cX3_flood 28 = .ok (.getfield 88, 3) := by decide +kernel
theorem dX3_flood_31 : decode cX3_flood 31 = .ok (.iload_n 2, 1) := by decide +kernel
theorem dX3_flood_32 : decode cX3_flood 32 = .ok (.iadd, 1) := by decide +kernel
theorem dX3_flood_33 : decode cX3_flood 33 = .ok (.sipush 500, 3) := by decide +kernel
theorem dX3_flood_36 : decode cX3_flood 36 = .ok (.if_icmp .le 13, 3) := by decide +kernel
theorem dX3_flood_39 : decode cX3_flood 39 = .ok (.new 56, 3) := by decide +kernel
theorem dX3_flood_42 : decode cX3_flood 42 = .ok (.dup, 1) := by decide +kernel
theorem dX3_flood_43 : decode cX3_flood 43 = .ok (.ldc 91, 2) := by decide +kernel
theorem dX3_flood_45 : decode cX3_flood 45 = .ok (.invokespecial 60, 3) := by decide +kernel
theorem dX3_flood_48 : decode cX3_flood 48 = .ok (.athrow, 1) := by decide +kernel
theorem dX3_flood_49 : decode cX3_flood 49 = .ok (.aload_n 3, 1) := by decide +kernel
theorem dX3_flood_50 : decode cX3_flood 50 = .ok (.iconst 0, 1) := by decide +kernel
theorem dX3_flood_51 : decode cX3_flood 51 = .ok (.putfield 75, 3) := by decide +kernel
theorem dX3_flood_54 : decode cX3_flood 54 = .ok (.aload_n 3, 1) := by decide +kernel
theorem dX3_flood_55 : decode cX3_flood 55 = .ok (.dup, 1) := by decide +kernel
theorem dX3_flood_56 : decode cX3_flood 56 = .ok (.getfield 88, 3) := by decide +kernel
theorem dX3_flood_59 : decode cX3_flood 59 = .ok (.iload_n 2, 1) := by decide +kernel
theorem dX3_flood_60 : decode cX3_flood 60 = .ok (.iadd, 1) := by decide +kernel
theorem dX3_flood_61 : decode cX3_flood 61 = .ok (.putfield 88, 3) := by decide +kernel
theorem dX3_flood_64 : decode cX3_flood 64 = .ok (.aload_n 3, 1) := by decide +kernel
theorem dX3_flood_65 : decode cX3_flood 65 = .ok (.getfield 88, 3) := by decide +kernel
theorem dX3_flood_68 : decode cX3_flood 68 = .ok (.ireturn, 1) := by decide +kernel
theorem dX3_drill_0 : decode cX3_drill 0 = .ok (.aload_n 0, 1) := by decide +kernel
theorem dX3_drill_1 : decode cX3_drill 1 = .ok (.iload_n 1, 1) := by decide +kernel
theorem dX3_drill_2 : decode cX3_drill 2 = .ok (.invokevirtual 78, 3) := by decide +kernel
theorem dX3_drill_5 : decode cX3_drill 5 = .ok (.astore_n 2, 1) := by decide +kernel
theorem dX3_drill_6 : decode cX3_drill 6 = .ok (.aload_n 2, 1) := by decide +kernel
theorem dX3_drill_7 : decode cX3_drill 7 = .ok (.aload_n 2, 1) := by decide +kernel
theorem dX3_drill_8 : decode cX3_drill 8 = .ok (.invokevirtual 93, 3) := by decide +kernel
theorem dX3_drill_11 : decode cX3_drill 11 = .ok (.putfield 97, 3) := by decide +kernel
theorem dX3_drill_14 : decode cX3_drill 14 = .ok (.aload_n 2, 1) := by decide +kernel
theorem dX3_drill_15 : decode cX3_drill 15 = .ok (.getfield 97, 3) := by decide +kernel
theorem dX3_drill_18 : decode cX3_drill 18 = .ok (.dreturn, 1) := by decide +kernel
theorem dX3_open_0 : decode cX3_open 0 = .ok (.aload_n 0, 1) := by decide +kernel
theorem dX3_open_1 : decode cX3_open 1 = .ok (.iload_n 1, 1) := by decide +kernel
theorem dX3_open_2 : decode cX3_open 2 = .ok (.invokevirtual 78, 3) := by decide +kernel
theorem dX3_open_5 : decode cX3_open 5 = .ok (.astore_n 3, 1) := by decide +kernel
theorem dX3_open_6 : decode cX3_open 6 = .ok (.iload_n 2, 1) := by decide +kernel
theorem dX3_open_7 : decode cX3_open 7 = .ok (.iconst 0, 1) := by decide +kernel
theorem dX3_open_8 : decode cX3_open 8 = .ok (.iconst 2, 1) := by decide +kernel
theorem dX3_open_9 : decode cX3_open 9 = .ok (.invokestatic 42, 3) := by decide +kernel
theorem dX3_open_12 : decode cX3_open 12 = .ok (.aload_n 3, 1) := by decide +kernel
theorem dX3_open_13 : decode cX3_open 13 = .ok (.getfield 101, 3) := by decide +kernel
theorem dX3_open_16 : decode cX3_open 16 = .ok (.istore 4, 2) := by decide +kernel
theorem dX3_open_18 : decode cX3_open 18 = .ok (.aload_n 3, 1) := by decide +kernel
theorem dX3_open_19 : decode cX3_open 19 = .ok (.iload_n 2, 1) := by decide +kernel
theorem dX3_open_20 : decode cX3_open 20 = .ok (.putfield 101, 3) := by decide +kernel
theorem dX3_open_23 : decode cX3_open 23 = .ok (.iload 4, 2) := by decide +kernel
theorem dX3_open_25 : decode cX3_open 25 = .ok (.ireturn, 1) := by decide +kernel
theorem dX3_limit_0 : decode cX3_limit 0 = .ok (.aload_n 0, 1) := by decide +kernel
theorem dX3_limit_1 : decode cX3_limit 1 = .ok (.iload_n 1, 1) := by decide +kernel
theorem dX3_limit_2 : decode cX3_limit 2 = .ok (.invokevirtual 78, 3) := by decide +kernel
theorem dX3_limit_5 : decode cX3_limit 5 = .ok (.astore_n 3, 1) := by decide +kernel
theorem dX3_limit_6 : decode cX3_limit 6 = .ok (.iload_n 2, 1) := by decide +kernel
theorem dX3_limit_7 : decode cX3_limit 7 = .ok (.iconst 1, 1) := by decide +kernel
theorem dX3_limit_8 : decode cX3_limit 8 = .ok (.sipush 300, 3) := by decide +kernel
theorem dX3_limit_11 : decode cX3_limit 11 = .ok (.invokestatic 42, 3) := by decide +kernel
theorem dX3_limit_14 : decode cX3_limit 14 = .ok (.aload_n 3, 1) := by decide +kernel
theorem dX3_limit_15 : decode cX3_limit 15 = .ok (.getfield 104, 3) := by decide +kernel
theorem dX3_limit_18 : decode cX3_limit 18 = .ok (.istore 4, 2) := by decide +kernel
theorem dX3_limit_20 : decode cX3_limit 20 = .ok (.aload_n 3, 1) := by decide +kernel
theorem dX3_limit_21 : decode cX3_limit 21 = .ok (.iload_n 2, 1) := by decide +kernel
theorem dX3_limit_22 : decode cX3_limit 22 = .ok (.putfield 104, 3) := by decide +kernel
theorem dX3_limit_25 : decode cX3_limit 25 = .ok (.iload 4, 2) := by decide +kernel
theorem dX3_limit_27 : decode cX3_limit 27 = .ok (.ireturn, 1) := by decide +kernel
theorem dX3_gap_0 : decode cX3_gap 0 = .ok (.iload_n 1, 1) := by decide +kernel
theorem dX3_gap_1 : decode cX3_gap 1 = .ok (.iconst 0, 1) := by decide +kernel
theorem dX3_gap_2 : decode cX3_gap 2 = .ok (.bipush 120, 2) := by decide +kernel
theorem dX3_gap_4 : decode cX3_gap 4 = .ok (.invokestatic 42, 3) := by decide +kernel
theorem dX3_gap_7 : decode cX3_gap 7 = .ok (.aload_n 0, 1) := by decide +kernel
theorem dX3_gap_8 : decode cX3_gap 8 = .ok (.getfield 39, 3) := by decide +kernel
theorem dX3_gap_11 : decode cX3_gap 11 = .ok (.istore_n 2, 1) := by decide +kernel
theorem dX3_gap_12 : decode cX3_gap 12 = .ok (.aload_n 0, 1) := by decide +kernel
theorem dX3_gap_13 : decode cX3_gap 13 = .ok (.iload_n 1, 1) := by decide +kernel
theorem dX3_gap_14 : decode cX3_gap 14 = .ok (.putfield 39, 3) := by decide +kernel
theorem dX3_gap_17 : decode cX3_gap 17 = .ok (.iload_n 2, 1) := by decide +kernel
theorem dX3_gap_18 : decode cX3_gap 18 = .ok (.ireturn, 1) := by decide +kernel
theorem dX3_vehicle_0 : decode cX3_vehicle 0 = .ok (.iload_n 1, 1) := by decide +kernel
theorem dX3_vehicle_1 : decode cX3_vehicle 1 = .ok (.sipush 500, 3) := by decide +kernel
theorem dX3_vehicle_4 : decode cX3_vehicle 4 = .ok (.ldc 107, 2) := by decide +kernel
theorem dX3_vehicle_6 : decode cX3_vehicle 6 = .ok (.invokestatic 42, 3) := by decide +kernel
theorem dX3_vehicle_9 : decode cX3_vehicle 9 = .ok (.iload_n 2, 1) := by decide +kernel
theorem dX3_vehicle_10 : decode cX3_vehicle 10 = .ok (.iconst 0, 1) := by decide +kernel
theorem dX3_vehicle_11 : decode cX3_vehicle 11 = .ok (.ldc 108, 2) := by decide +kernel
theorem dX3_vehicle_13 : decode cX3_vehicle 13 = .ok (.invokestatic 42, 3) := by decide +kernel
theorem dX3_vehicle_16 : decode cX3_vehicle 16 = .ok (.iload_n 3, 1) := by decide +kernel
theorem dX3_vehicle_17 : decode cX3_vehicle 17 = .ok (.iconst 1, 1) := by decide +kernel
theorem dX3_vehicle_18 : decode cX3_vehicle 18 = .ok (.sipush 300, 3) := by decide +kernel
theorem dX3_vehicle_21 : decode cX3_vehicle 21 = .ok (.invokestatic 42, 3) := by decide +kernel
theorem dX3_vehicle_24 : decode cX3_vehicle 24 = .ok (.aload_n 0, 1) := by decide +kernel
theorem dX3_vehicle_25 : decode cX3_vehicle 25 = .ok (.getfield 16, 3) := by decide +kernel
theorem dX3_vehicle_28 : decode cX3_vehicle 28 = .ok (.invokeinterface 46 1, 5) := by decide +kernel
theorem dX3_vehicle_33 : decode cX3_vehicle 33 = .ok (.bipush 16, 2) := by decide +kernel
theorem dX3_vehicle_35 : decode cX3_vehicle 35 = .ok (.if_icmp .ge 15, 3) := by decide +kernel
theorem dX3_vehicle_38 : decode cX3_vehicle 38 = .ok (.aload_n 0, 1) := by decide +kernel
theorem dX3_vehicle_39 : decode cX3_vehicle 39 = .ok (.getfield 10, 3) := by decide +kernel
theorem dX3_vehicle_42 : decode cX3_vehicle 42 = .ok (.invokeinterface 52 1, 5) := by decide +kernel
theorem dX3_vehicle_47 : decode cX3_vehicle 47 = .ok (.ifCond .eq 13, 3) := by decide +kernel
theorem dX3_vehicle_50 : decode cX3_vehicle 50 = .ok (.new 56, 3) := by decide +kernel
theorem dX3_vehicle_53 : decode cX3_vehicle 53 = .ok (.dup, 1) := by decide +kernel
theorem dX3_vehicle_54 : decode cX3_vehicle 54 = .ok (.ldc 109, 2) := by decide +kernel
theorem dX3_vehicle_56 : decode cX3_vehicle 56 = .ok (.invokespecial 60, 3) := by decide +kernel
theorem dX3_vehicle_59 : decode cX3_vehicle 59 = .ok (.athrow, 1) := by decide +kernel
theorem dX3_vehicle_60 : decode cX3_vehicle 60 = .ok (.aload_n 0, 1) := by decide +kernel
theorem dX3_vehicle_61 : decode cX3_vehicle 61 = .ok (.getfield 16, 3) := by decide +kernel
theorem dX3_vehicle_64 : decode cX3_vehicle 64 = .ok (.new 111, 3) := by decide +kernel
theorem dX3_vehicle_67 : decode cX3_vehicle 67 = .ok (.dup, 1) := by decide +kernel
theorem dX3_vehicle_68 : decode cX3_vehicle 68 = .ok (.iload_n 1, 1) := by decide +kernel
theorem dX3_vehicle_69 : decode cX3_vehicle 69 = .ok (.iload_n 2, 1) := by decide +kernel
theorem dX3_vehicle_70 : decode cX3_vehicle 70 = .ok (.iload_n 3, 1) := by decide +kernel
theorem dX3_vehicle_71 : decode cX3_vehicle 71 = .ok (.invokespecial 113, 3) := by decide +kernel
theorem dX3_vehicle_74 : decode cX3_vehicle 74 = .ok (.invokeinterface 67 2, 5) := by decide +kernel
theorem dX3_vehicle_79 : decode cX3_vehicle 79 = .ok (.pop, 1) := by decide +kernel
theorem dX3_vehicle_80 : decode cX3_vehicle 80 = .ok (.aload_n 0, 1) := by decide +kernel
theorem dX3_vehicle_81 : decode cX3_vehicle 81 = .ok (.getfield 16, 3) := by decide +kernel
theorem dX3_vehicle_84 : decode cX3_vehicle 84 = .ok (.invokeinterface 46 1, 5) := by decide +kernel
theorem dX3_vehicle_89 : decode cX3_vehicle 89 = .ok (.iconst 1, 1) := by decide +kernel
theorem dX3_vehicle_90 : decode cX3_vehicle 90 = .ok (.isub, 1) := by decide +kernel
theorem dX3_vehicle_91 : decode cX3_vehicle 91 = .ok (.ireturn, 1) := by decide +kernel
theorem dX3_load_0 : decode cX3_load 0 = .ok (.aload_n 0, 1) := by decide +kernel
theorem dX3_load_1 : decode cX3_load 1 = .ok (.iload_n 1, 1) := by decide +kernel
theorem dX3_load_2 : decode cX3_load 2 = .ok (.invokevirtual 114, 3) := by decide +kernel
theorem dX3_load_5 : decode cX3_load 5 = .ok (.astore 4, 2) := by decide +kernel
theorem dX3_load_7 : decode cX3_load 7 = .ok (.iload_n 2, 1) := by decide +kernel
theorem dX3_load_8 : decode cX3_load 8 = .ok (.invokestatic 118, 3) := by decide +kernel
theorem dX3_load_11 : decode cX3_load 11 = .ok (.iload_n 3, 1) := by decide +kernel
theorem dX3_load_12 : decode cX3_load 12 = .ok (.iconst 1, 1) := by decide +kernel
theorem dX3_load_13 : decode cX3_load 13 = .ok (.aload 4, 2) := by decide +kernel
theorem dX3_load_15 : decode cX3_load 15 = .ok (.getfield 122, 3) := by decide +kernel
theorem dX3_load_18 : decode cX3_load 18 = .ok (.invokestatic 42, 3) := by decide +kernel
theorem dX3_load_21 : decode cX3_load 21 = .ok (.aload 4, 2) := by decide +kernel
theorem dX3_load_23 : decode cX3_load 23 = .ok (.getfield 125, 3) := by decide +kernel
theorem dX3_load_26 : decode cX3_load 26 = .ok (.ifCond .ne 26, 3) := by decide +kernel
theorem dX3_load_29 : decode cX3_load 29 = .ok (.aload 4, 2) := by decide +kernel
theorem dX3_load_31 : decode cX3_load 31 = .ok (.getfield 128, 3) := by decide +kernel
theorem dX3_load_34 : decode cX3_load 34 = .ok (.ifnonnull 18, 3) := by decide +kernel
theorem dX3_load_37 : decode cX3_load 37 = .ok (.aload_n 0, 1) := by decide +kernel
theorem dX3_load_38 : decode cX3_load 38 = .ok (.getfield 19, 3) := by decide +kernel
theorem dX3_load_41 : decode cX3_load 41 = .ok (.invokeinterface 46 1, 5) := by decide +kernel
theorem dX3_load_46 : decode cX3_load 46 = .ok (.sipush 512, 3) := by decide +kernel
theorem dX3_load_49 : decode cX3_load 49 = .ok (.if_icmp .lt 13, 3) := by decide +kernel
theorem dX3_load_52 : decode cX3_load 52 = .ok (.new 56, 3) := by decide +kernel
theorem dX3_load_55 : decode cX3_load 55 = .ok (.dup, 1) := by decide +kernel
theorem dX3_load_56 : decode cX3_load 56 = .ok (.ldc 132, 2) := by decide +kernel
theorem dX3_load_58 : decode cX3_load 58 = .ok (.invokespecial 60, 3) := by decide +kernel
theorem dX3_load_61 : decode cX3_load 61 = .ok (.athrow, 1) := by decide +kernel
theorem dX3_load_62 : decode cX3_load 62 = .ok (.new 134, 3) := by decide +kernel
theorem dX3_load_65 : decode cX3_load 65 = .ok (.dup, 1) := by decide +kernel
theorem dX3_load_66 : decode cX3_load 66 = .ok (.iload_n 2, 1) := by decide +kernel
theorem dX3_load_67 : decode cX3_load 67 = .ok (.iload_n 3, 1) := by decide +kernel
theorem dX3_load_68 : decode cX3_load 68 = .ok (.invokespecial 136, 3) := by decide +kernel
theorem dX3_load_71 : decode cX3_load 71 = .ok (.astore 5, 2) := by decide +kernel
theorem dX3_load_73 : decode cX3_load 73 = .ok (.aload_n 0, 1) := by decide +kernel
theorem dX3_load_74 : decode cX3_load 74 = .ok (.getfield 19, 3) := by decide +kernel
theorem dX3_load_77 : decode cX3_load 77 = .ok (.aload 5, 2) := by decide +kernel
theorem dX3_load_79 : decode cX3_load 79 = .ok (.invokeinterface 67 2, 5) := by decide +kernel
theorem dX3_load_84 : decode cX3_load 84 = .ok (.pop, 1) := by decide +kernel
theorem dX3_load_85 : decode cX3_load 85 = .ok (.aload 4, 2) := by decide +kernel
theorem dX3_load_87 : decode cX3_load 87 = .ok (.aload 5, 2) := by decide +kernel
theorem dX3_load_89 : decode cX3_load 89 = .ok (.putfield 128, 3) := by decide +kernel
theorem dX3_load_92 : decode cX3_load 92 = .ok (.aload_n 0, 1) := by decide +kernel
theorem dX3_load_93 : decode cX3_load 93 = .ok (.getfield 22, 3) := by decide +kernel
theorem dX3_load_96 : decode cX3_load 96 = .ok (.iload_n 2, 1) := by decide +kernel
theorem dX3_load_97 : decode cX3_load 97 = .ok (.dup2, 1) := by decide +kernel
theorem dX3_load_98 : decode cX3_load 98 = .ok (.iaload, 1) := by decide +kernel
theorem dX3_load_99 : decode cX3_load 99 = .ok (.iload_n 3, 1) := by decide +kernel
theorem dX3_load_100 : decode cX3_load 100 = .ok (.iadd, 1) := by decide +kernel
theorem dX3_load_101 : decode cX3_load 101 = .ok (.iastore, 1) := by decide +kernel
theorem dX3_load_102 : decode cX3_load 102 = .ok (.aload 4, 2) := by decide +kernel
theorem dX3_load_104 : decode cX3_load 104 = .ok (.invokevirtual 139, 3) := by decide +kernel
theorem dX3_load_107 : decode cX3_load 107 = .ok (.ireturn, 1) := by decide +kernel
theorem dX3_go_0 : decode cX3_go 0 = .ok (.aload_n 0, 1) := by decide +kernel
theorem dX3_go_1 : decode cX3_go 1 = .ok (.iload_n 1, 1) := by decide +kernel
theorem dX3_go_2 : decode cX3_go 2 = .ok (.invokevirtual 114, 3) := by decide +kernel
theorem dX3_go_5 : decode cX3_go 5 = .ok (.astore_n 2, 1) := by decide +kernel
theorem dX3_go_6 : decode cX3_go 6 = .ok (.aload_n 2, 1) := by decide +kernel
theorem dX3_go_7 : decode cX3_go 7 = .ok (.getfield 125, 3) := by decide +kernel
theorem dX3_go_10 : decode cX3_go 10 = .ok (.ifCond .eq 21, 3) := by decide +kernel
theorem dX3_go_13 : decode cX3_go 13 = .ok (.aload_n 2, 1) := by decide +kernel
theorem dX3_go_14 : decode cX3_go 14 = .ok (.getfield 125, 3) := by decide +kernel
theorem dX3_go_17 : decode cX3_go 17 = .ok (.iconst 3, 1) := by decide +kernel
theorem dX3_go_18 : decode cX3_go 18 = .ok (.if_icmp .eq 13, 3) := by decide +kernel
theorem dX3_go_21 : decode cX3_go 21 = .ok (.new 56, 3) := by decide +kernel
theorem dX3_go_24 : decode cX3_go 24 = .ok (.dup, 1) := by decide +kernel
theorem dX3_go_25 : decode cX3_go 25 = .ok (.ldc 142, 2) := by decide +kernel
theorem dX3_go_27 : decode cX3_go 27 = .ok (.invokespecial 60, 3) := by decide +kernel
theorem dX3_go_30 : decode cX3_go 30 = .ok (.athrow, 1) := by decide +kernel
theorem dX3_go_31 : decode cX3_go 31 = .ok (.aload_n 2, 1) := by decide +kernel
theorem dX3_go_32 : decode cX3_go 32 = .ok (.aload_n 2, 1) := by decide +kernel
theorem dX3_go_33 : decode cX3_go 33 = .ok (.getfield 125, 3) := by decide +kernel
theorem dX3_go_36 : decode cX3_go 36 = .ok (.ifCond .ne 7, 3) := by decide +kernel
theorem dX3_go_39 : decode cX3_go 39 = .ok (.iconst 1, 1) := by decide +kernel
theorem dX3_go_40 : decode cX3_go 40 = .ok (.goto 4, 3) := by decide +kernel
theorem dX3_go_43 : decode cX3_go 43 = .ok (.iconst 0, 1) := by decide +kernel
theorem dX3_go_44 : decode cX3_go 44 = .ok (.putfield 144, 3) := by decide +kernel
theorem dX3_go_47 : decode cX3_go 47 = .ok (.aload_n 2, 1) := by decide +kernel
theorem dX3_go_48 : decode cX3_go 48 = .ok (.iconst 2, 1) := by decide +kernel
theorem dX3_go_49 : decode cX3_go 49 = .ok (.putfield 125, 3) := by decide +kernel
theorem dX3_go_52 : decode cX3_go 52 = .ok (.aload_n 2, 1) := by decide +kernel
theorem dX3_go_53 : decode cX3_go 53 = .ok (.getfield 144, 3) := by decide +kernel
theorem dX3_go_56 : decode cX3_go 56 = .ok (.ireturn, 1) := by decide +kernel
theorem dX3_turn_0 : decode cX3_turn 0 = .ok (.aload_n 0, 1) := by decide +kernel
theorem dX3_turn_1 : decode cX3_turn 1 = .ok (.iload_n 1, 1) := by decide +kernel
theorem dX3_turn_2 : decode cX3_turn 2 = .ok (.invokevirtual 114, 3) := by decide +kernel
theorem dX3_turn_5 : decode cX3_turn 5 = .ok (.astore_n 2, 1) := by decide +kernel
theorem dX3_turn_6 : decode cX3_turn 6 = .ok (.aload_n 2, 1) := by decide +kernel
theorem dX3_turn_7 : decode cX3_turn 7 = .ok (.getfield 125, 3) := by decide +kernel
theorem dX3_turn_10 : decode cX3_turn 10 = .ok (.iconst 2, 1) := by decide +kernel
theorem dX3_turn_11 : decode cX3_turn 11 = .ok (.if_icmp .eq 13, 3) := by decide +kernel
theorem dX3_turn_14 : decode cX3_turn 14 = .ok (.new 56, 3) := by decide +kernel
theorem dX3_turn_17 : decode cX3_turn 17 = .ok (.dup, 1) := by decide +kernel
theorem dX3_turn_18 : decode cX3_turn 18 = .ok (.ldc 148, 2) := by decide +kernel
theorem dX3_turn_20 : decode cX3_turn 20 = .ok (.invokespecial 60, 3) := by decide +kernel
theorem dX3_turn_23 : decode cX3_turn 23 = .ok (.athrow, 1) := by decide +kernel
theorem dX3_turn_24 : decode cX3_turn 24 = .ok (.aload_n 2, 1) := by decide +kernel
theorem dX3_turn_25 : decode cX3_turn 25 = .ok (.aload_n 2, 1) := by decide +kernel
theorem dX3_turn_26 : decode cX3_turn 26 = .ok (.getfield 144, 3) := by decide +kernel
theorem dX3_turn_29 : decode cX3_turn 29 = .ok (.ifCond .ne 7, 3) := by decide +kernel
theorem dX3_turn_32 : decode cX3_turn 32 = .ok (.iconst 1, 1) := by decide +kernel
theorem dX3_turn_33 : decode cX3_turn 33 = .ok (.goto 4, 3) := by decide +kernel
theorem dX3_turn_36 : decode cX3_turn 36 = .ok (.iconst 0, 1) := by decide +kernel
theorem dX3_turn_37 : decode cX3_turn 37 = .ok (.putfield 144, 3) := by decide +kernel
theorem dX3_turn_40 : decode cX3_turn 40 = .ok (.aload_n 0, 1) := by decide +kernel
theorem dX3_turn_41 : decode cX3_turn 41 = .ok (.aload_n 2, 1) := by decide +kernel
theorem dX3_turn_42 : decode cX3_turn 42 = .ok (.invokevirtual 150, 3) := by decide +kernel
theorem dX3_turn_45 : decode cX3_turn 45 = .ok (.aload_n 2, 1) := by decide +kernel
theorem dX3_turn_46 : decode cX3_turn 46 = .ok (.getfield 144, 3) := by decide +kernel
theorem dX3_turn_49 : decode cX3_turn 49 = .ok (.ireturn, 1) := by decide +kernel
theorem dX3_order_0 : decode cX3_order 0 = .ok (.iload_n 1, 1) := by decide +kernel
theorem dX3_order_1 : decode cX3_order 1 = .ok (.invokestatic 118, 3) := by decide +kernel
theorem dX3_order_4 : decode cX3_order 4 = .ok (.iload_n 2, 1) := by decide +kernel
theorem dX3_order_5 : decode cX3_order 5 = .ok (.iconst 1, 1) := by decide +kernel
theorem dX3_order_6 : decode cX3_order 6 = .ok (.ldc 154, 2) := by decide +kernel
theorem dX3_order_8 : decode cX3_order 8 = .ok (.invokestatic 42, 3) := by decide +kernel
theorem dX3_order_11 : decode cX3_order 11 = .ok (.aload_n 0, 1) := by decide +kernel
theorem dX3_order_12 : decode cX3_order 12 = .ok (.getfield 29, 3) := by decide +kernel
theorem dX3_order_15 : decode cX3_order 15 = .ok (.iload_n 1, 1) := by decide +kernel
theorem dX3_order_16 : decode cX3_order 16 = .ok (.iaload, 1) := by decide +kernel
theorem dX3_order_17 : decode cX3_order 17 = .ok (.iload_n 2, 1) := by decide +kernel
theorem dX3_order_18 : decode cX3_order 18 = .ok (.iadd, 1) := by decide +kernel
theorem dX3_order_19 : decode cX3_order 19 = .ok (.ldc 155, 2) := by decide +kernel
theorem dX3_order_21 : decode cX3_order 21 = .ok (.if_icmp .le 13, 3) := by decide +kernel
theorem dX3_order_24 : decode cX3_order 24 = .ok (.new 56, 3) := by decide +kernel
theorem dX3_order_27 : decode cX3_order 27 = .ok (.dup, 1) := by decide +kernel
theorem dX3_order_28 : decode cX3_order 28 = .ok (.ldc 156, 2) := by decide +kernel
theorem dX3_order_30 : decode cX3_order 30 = .ok (.invokespecial 60, 3) := by decide +kernel
theorem dX3_order_33 : decode cX3_order 33 = .ok (.athrow, 1) := by decide +kernel
theorem dX3_order_34 : decode cX3_order 34 = .ok (.aload_n 0, 1) := by decide +kernel
theorem dX3_order_35 : decode cX3_order 35 = .ok (.getfield 29, 3) := by decide +kernel
theorem dX3_order_38 : decode cX3_order 38 = .ok (.iload_n 1, 1) := by decide +kernel
theorem dX3_order_39 : decode cX3_order 39 = .ok (.dup2, 1) := by decide +kernel
theorem dX3_order_40 : decode cX3_order 40 = .ok (.iaload, 1) := by decide +kernel
theorem dX3_order_41 : decode cX3_order 41 = .ok (.iload_n 2, 1) := by decide +kernel
theorem dX3_order_42 : decode cX3_order 42 = .ok (.iadd, 1) := by decide +kernel
theorem dX3_order_43 : decode cX3_order 43 = .ok (.iastore, 1) := by decide +kernel
theorem dX3_order_44 : decode cX3_order 44 = .ok (.aload_n 0, 1) := by decide +kernel
theorem dX3_order_45 : decode cX3_order 45 = .ok (.getfield 29, 3) := by decide +kernel
theorem dX3_order_48 : decode cX3_order 48 = .ok (.iload_n 1, 1) := by decide +kernel
theorem dX3_order_49 : decode cX3_order 49 = .ok (.iaload, 1) := by decide +kernel
theorem dX3_order_50 : decode cX3_order 50 = .ok (.ireturn, 1) := by decide +kernel
theorem dX3_pass_0 : decode cX3_pass 0 = .ok (.iload_n 1, 1) := by decide +kernel
theorem dX3_pass_1 : decode cX3_pass 1 = .ok (.iconst 1, 1) := by decide +kernel
theorem dX3_pass_2 : decode cX3_pass 2 = .ok (.sipush 3000, 3) := by decide +kernel
theorem dX3_pass_5 : decode cX3_pass 5 = .ok (.invokestatic 42, 3) := by decide +kernel
theorem dX3_pass_8 : decode cX3_pass 8 = .ok (.aload_n 0, 1) := by decide +kernel
theorem dX3_pass_9 : decode cX3_pass 9 = .ok (.getfield 32, 3) := by decide +kernel
theorem dX3_pass_12 : decode cX3_pass 12 = .ok (.iload_n 1, 1) := by decide +kernel
theorem dX3_pass_13 : decode cX3_pass 13 = .ok (.iadd, 1) := by decide +kernel
theorem dX3_pass_14 : decode cX3_pass 14 = .ok (.ldc 158, 2) := by decide +kernel
theorem dX3_pass_16 : decode cX3_pass 16 = .ok (.if_icmp .le 13, 3) := by decide +kernel
theorem dX3_pass_19 : decode cX3_pass 19 = .ok (.new 56, 3) := by decide +kernel
theorem dX3_pass_22 : decode cX3_pass 22 = .ok (.dup, 1) := by decide +kernel
theorem dX3_pass_23 : decode cX3_pass 23 = .ok (.ldc 159, 2) := by decide +kernel
theorem dX3_pass_25 : decode cX3_pass 25 = .ok (.invokespecial 60, 3) := by decide +kernel
theorem dX3_pass_28 : decode cX3_pass 28 = .ok (.athrow, 1) := by decide +kernel
theorem dX3_pass_29 : decode cX3_pass 29 = .ok (.iconst 0, 1) := by decide +kernel
theorem dX3_pass_30 : decode cX3_pass 30 = .ok (.istore_n 2, 1) := by decide +kernel
theorem dX3_pass_31 : decode cX3_pass 31 = .ok (.iload_n 2, 1) := by decide +kernel
theorem dX3_pass_32 : decode cX3_pass 32 = .ok (.iload_n 1, 1) := by decide +kernel
theorem dX3_pass_33 : decode cX3_pass 33 = .ok (.if_icmp .ge 13, 3) := by decide +kernel
theorem dX3_pass_36 : decode cX3_pass 36 = .ok (.aload_n 0, 1) := by decide +kernel
theorem dX3_pass_37 : decode cX3_pass 37 = .ok (.invokevirtual 161, 3) := by decide +kernel
theorem dX3_pass_40 : decode cX3_pass 40 = .ok (.iinc 2 1, 3) := by decide +kernel
theorem dX3_pass_43 : decode cX3_pass 43 = .ok (.goto (-12), 3) := by decide +kernel
theorem dX3_pass_46 : decode cX3_pass 46 = .ok (.aload_n 0, 1) := by decide +kernel
theorem dX3_pass_47 : decode cX3_pass 47 = .ok (.getfield 32, 3) := by decide +kernel
theorem dX3_pass_50 : decode cX3_pass 50 = .ok (.ireturn, 1) := by decide +kernel
theorem dX3_minute_0 : decode cX3_minute 0 = .ok (.aload_n 0, 1) := by decide +kernel
theorem dX3_minute_1 : decode cX3_minute 1 = .ok (.getfield 32, 3) := by decide +kernel
theorem dX3_minute_4 : decode cX3_minute 4 = .ok (.ireturn, 1) := by decide +kernel
theorem dX3_told_0 : decode cX3_told 0 = .ok (.aload_n 0, 1) := by decide +kernel
theorem dX3_told_1 : decode cX3_told 1 = .ok (.iload_n 1, 1) := by decide +kernel
theorem dX3_told_2 : decode cX3_told 2 = .ok (.invokevirtual 78, 3) := by decide +kernel
theorem dX3_told_5 : decode cX3_told 5 = .ok (.astore_n 3, 1) := by decide +kernel
theorem dX3_told_6 : decode cX3_told 6 = .ok (.iload_n 2, 1) := by decide +kernel
theorem dX3_told_7 : decode cX3_told 7 = .ok (.iconst 0, 1) := by decide +kernel
theorem dX3_told_8 : decode cX3_told 8 = .ok (.bipush 7, 2) := by decide +kernel
theorem dX3_told_10 : decode cX3_told 10 = .ok (.invokestatic 42, 3) := by decide +kernel
theorem dX3_told_13 : decode cX3_told 13 = .ok (.iload_n 2, 1) := by decide +kernel
theorem dX3_told_14 : decode cX3_told 14 = .ok (.tableswitch 77 0 6 #[42, 47, 52, 57, 62, 67, 72], 42) := by decide +kernel
theorem dX3_told_56 : decode cX3_told 56 = .ok (.aload_n 3, 1) := by decide +kernel
theorem dX3_told_57 : decode cX3_told 57 = .ok (.getfield 164, 3) := by decide +kernel
theorem dX3_told_60 : decode cX3_told 60 = .ok (.ireturn, 1) := by decide +kernel
theorem dX3_told_61 : decode cX3_told 61 = .ok (.aload_n 3, 1) := by decide +kernel
theorem dX3_told_62 : decode cX3_told 62 = .ok (.getfield 167, 3) := by decide +kernel
theorem dX3_told_65 : decode cX3_told 65 = .ok (.ireturn, 1) := by decide +kernel
theorem dX3_told_66 : decode cX3_told 66 = .ok (.aload_n 3, 1) := by decide +kernel
theorem dX3_told_67 : decode cX3_told 67 = .ok (.getfield 88, 3) := by decide +kernel
theorem dX3_told_70 : decode cX3_told 70 = .ok (.ireturn, 1) := by decide +kernel
theorem dX3_told_71 : decode cX3_told 71 = .ok (.aload_n 3, 1) := by decide +kernel
theorem dX3_told_72 : decode cX3_told 72 = .ok (.getfield 75, 3) := by decide +kernel
theorem dX3_told_75 : decode cX3_told 75 = .ok (.ireturn, 1) := by decide +kernel
theorem dX3_told_76 : decode cX3_told 76 = .ok (.aload_n 3, 1) := by decide +kernel
theorem dX3_told_77 : decode cX3_told 77 = .ok (.getfield 170, 3) := by decide +kernel
theorem dX3_told_80 : decode cX3_told 80 = .ok (.ireturn, 1) := by decide +kernel
theorem dX3_told_81 : decode cX3_told 81 = .ok (.aload_n 3, 1) := by decide +kernel
theorem dX3_told_82 : decode cX3_told 82 = .ok (.getfield 101, 3) := by decide +kernel
theorem dX3_told_85 : decode cX3_told 85 = .ok (.ireturn, 1) := by decide +kernel
theorem dX3_told_86 : decode cX3_told 86 = .ok (.aload_n 3, 1) := by decide +kernel
theorem dX3_told_87 : decode cX3_told 87 = .ok (.getfield 104, 3) := by decide +kernel
theorem dX3_told_90 : decode cX3_told 90 = .ok (.ireturn, 1) := by decide +kernel
theorem dX3_told_91 : decode cX3_told 91 = .ok (.aload_n 3, 1) := by decide +kernel
theorem dX3_told_92 : decode cX3_told 92 = .ok (.getfield 173, 3) := by decide +kernel
theorem dX3_told_95 : decode cX3_told 95 = .ok (.aload_n 3, 1) := by decide +kernel
theorem dX3_told_96 : decode cX3_told 96 = .ok (.getfield 176, 3) := by decide +kernel
theorem dX3_told_99 : decode cX3_told 99 = .ok (.iadd, 1) := by decide +kernel
theorem dX3_told_100 : decode cX3_told 100 = .ok (.ireturn, 1) := by decide +kernel
theorem dX3_thickness_0 : decode cX3_thickness 0 = .ok (.aload_n 0, 1) := by decide +kernel
theorem dX3_thickness_1 : decode cX3_thickness 1 = .ok (.iload_n 1, 1) := by decide +kernel
theorem dX3_thickness_2 : decode cX3_thickness 2 = .ok (.invokevirtual 78, 3) := by decide +kernel
theorem dX3_thickness_5 : decode cX3_thickness 5 = .ok (.iload_n 2, 1) := by decide +kernel
theorem dX3_thickness_6 : decode cX3_thickness 6 = .ok (.invokevirtual 179, 3) := by decide +kernel
theorem dX3_thickness_9 : decode cX3_thickness 9 = .ok (.dreturn, 1) := by decide +kernel
theorem dX3_bears_0 : decode cX3_bears 0 = .ok (.aload_n 0, 1) := by decide +kernel
theorem dX3_bears_1 : decode cX3_bears 1 = .ok (.iload_n 1, 1) := by decide +kernel
theorem dX3_bears_2 : decode cX3_bears 2 = .ok (.invokevirtual 78, 3) := by decide +kernel
theorem dX3_bears_5 : decode cX3_bears 5 = .ok (.iload_n 2, 1) := by decide +kernel
theorem dX3_bears_6 : decode cX3_bears 6 = .ok (.invokevirtual 183, 3) := by decide +kernel
theorem dX3_bears_9 : decode cX3_bears 9 = .ok (.ireturn, 1) := by decide +kernel
theorem dX3_ofVehicle_0 : decode cX3_ofVehicle 0 = .ok (.aload_n 0, 1) := by decide +kernel
theorem dX3_ofVehicle_1 : decode cX3_ofVehicle 1 = .ok (.iload_n 1, 1) := by decide +kernel
theorem dX3_ofVehicle_2 : decode cX3_ofVehicle 2 = .ok (.invokevirtual 114, 3) := by decide +kernel
theorem dX3_ofVehicle_5 : decode cX3_ofVehicle 5 = .ok (.astore_n 3, 1) := by decide +kernel
theorem dX3_ofVehicle_6 : decode cX3_ofVehicle 6 = .ok (.iload_n 2, 1) := by decide +kernel
theorem dX3_ofVehicle_7 : decode cX3_ofVehicle 7 = .ok (.iconst 0, 1) := by decide +kernel
theorem dX3_ofVehicle_8 : decode cX3_ofVehicle 8 = .ok (.bipush 6, 2) := by decide +kernel
theorem dX3_ofVehicle_10 : decode cX3_ofVehicle 10 = .ok (.invokestatic 42, 3) := by decide +kernel
theorem dX3_ofVehicle_13 : decode cX3_ofVehicle 13 = .ok (.iload_n 2, 1) := by decide +kernel
theorem dX3_ofVehicle_14 : decode cX3_ofVehicle 14 = .ok (.tableswitch 104 0 5 #[38, 43, 48, 67, 86, 91], 38) := by decide +kernel
theorem dX3_ofVehicle_52 : decode cX3_ofVehicle 52 = .ok (.aload_n 3, 1) := by decide +kernel
theorem dX3_ofVehicle_53 : decode cX3_ofVehicle 53 = .ok (.getfield 125, 3) := by decide +kernel
theorem dX3_ofVehicle_56 : decode cX3_ofVehicle 56 = .ok (.ireturn, 1) := by decide +kernel
theorem dX3_ofVehicle_57 : decode cX3_ofVehicle 57 = .ok (.aload_n 3, 1) := by decide +kernel
theorem dX3_ofVehicle_58 : decode cX3_ofVehicle 58 = .ok (.invokevirtual 139, 3) := by decide +kernel
theorem dX3_ofVehicle_61 : decode cX3_ofVehicle 61 = .ok (.ireturn, 1) := by decide +kernel
theorem dX3_ofVehicle_62 : decode cX3_ofVehicle 62 = .ok (.aload_n 3, 1) := by decide +kernel
theorem dX3_ofVehicle_63 : decode cX3_ofVehicle 63 = .ok (.getfield 128, 3) := by decide +kernel
theorem dX3_ofVehicle_66 : decode cX3_ofVehicle 66 = .ok (.ifnonnull 7, 3) := by decide +kernel
theorem dX3_ofVehicle_69 : decode cX3_ofVehicle 69 = .ok (.iconst 0, 1) := by decide +kernel
theorem dX3_ofVehicle_70 : decode cX3_ofVehicle 70 = .ok (.goto 10, 3) := by decide +kernel
theorem dX3_ofVehicle_73 : decode cX3_ofVehicle 73 = .ok (.aload_n 3, 1) := by decide +kernel
theorem dX3_ofVehicle_74 : decode cX3_ofVehicle 74 = .ok (.getfield 128, 3) := by decide +kernel
theorem dX3_ofVehicle_77 : decode cX3_ofVehicle 77 = .ok (.getfield 187, 3) := by decide +kernel
theorem dX3_ofVehicle_80 : decode cX3_ofVehicle 80 = .ok (.ireturn, 1) := by decide +kernel
theorem dX3_ofVehicle_81 : decode cX3_ofVehicle 81 = .ok (.aload_n 3, 1) := by decide +kernel
theorem dX3_ofVehicle_82 : decode cX3_ofVehicle 82 = .ok (.getfield 128, 3) := by decide +kernel
theorem dX3_ofVehicle_85 : decode cX3_ofVehicle 85 = .ok (.ifnonnull 7, 3) := by decide +kernel
theorem dX3_ofVehicle_88 : decode cX3_ofVehicle 88 = .ok (.iconst (-1), 1) := by decide +kernel
theorem dX3_ofVehicle_89 : decode cX3_ofVehicle 89 = .ok (.goto 10, 3) := by decide +kernel
theorem dX3_ofVehicle_92 : decode cX3_ofVehicle 92 = .ok (.aload_n 3, 1) := by decide +kernel
theorem dX3_ofVehicle_93 : decode cX3_ofVehicle 93 = .ok (.getfield 128, 3) := by decide +kernel
theorem dX3_ofVehicle_96 : decode cX3_ofVehicle 96 = .ok (.getfield 190, 3) := by decide +kernel
theorem dX3_ofVehicle_99 : decode cX3_ofVehicle 99 = .ok (.ireturn, 1) := by decide +kernel
theorem dX3_ofVehicle_100 : decode cX3_ofVehicle 100 = .ok (.aload_n 3, 1) := by decide +kernel
theorem dX3_ofVehicle_101 : decode cX3_ofVehicle 101 = .ok (.getfield 193, 3) := by decide +kernel
theorem dX3_ofVehicle_104 : decode cX3_ofVehicle 104 = .ok (.ireturn, 1) := by decide +kernel
theorem dX3_ofVehicle_105 : decode cX3_ofVehicle 105 = .ok (.aload_n 3, 1) := by decide +kernel
theorem dX3_ofVehicle_106 : decode cX3_ofVehicle 106 = .ok (.getfield 144, 3) := by decide +kernel
theorem dX3_ofVehicle_109 : decode cX3_ofVehicle 109 = .ok (.ifCond .eq 7, 3) := by decide +kernel
theorem dX3_ofVehicle_112 : decode cX3_ofVehicle 112 = .ok (.iconst 1, 1) := by decide +kernel
theorem dX3_ofVehicle_113 : decode cX3_ofVehicle 113 = .ok (.goto 4, 3) := by decide +kernel
theorem dX3_ofVehicle_116 : decode cX3_ofVehicle 116 = .ok (.iconst 0, 1) := by decide +kernel
theorem dX3_ofVehicle_117 : decode cX3_ofVehicle 117 = .ok (.ireturn, 1) := by decide +kernel
theorem dX3_ofVehicle_118 : decode cX3_ofVehicle 118 = .ok (.aload_n 3, 1) := by decide +kernel
theorem dX3_ofVehicle_119 : decode cX3_ofVehicle 119 = .ok (.getfield 125, 3) := by decide +kernel
theorem dX3_ofVehicle_122 : decode cX3_ofVehicle 122 = .ok (.iconst 1, 1) := by decide +kernel
theorem dX3_ofVehicle_123 : decode cX3_ofVehicle 123 = .ok (.if_icmp .ne 10, 3) := by decide +kernel
theorem dX3_ofVehicle_126 : decode cX3_ofVehicle 126 = .ok (.aload_n 3, 1) := by decide +kernel
theorem dX3_ofVehicle_127 : decode cX3_ofVehicle 127 = .ok (.getfield 196, 3) := by decide +kernel
theorem dX3_ofVehicle_130 : decode cX3_ofVehicle 130 = .ok (.goto 4, 3) := by decide +kernel
theorem dX3_ofVehicle_133 : decode cX3_ofVehicle 133 = .ok (.iconst (-1), 1) := by decide +kernel
theorem dX3_ofVehicle_134 : decode cX3_ofVehicle 134 = .ok (.ireturn, 1) := by decide +kernel
theorem dX3_why_0 : decode cX3_why 0 = .ok (.aload_n 0, 1) := by decide +kernel
theorem dX3_why_1 : decode cX3_why 1 = .ok (.iload_n 1, 1) := by decide +kernel
theorem dX3_why_2 : decode cX3_why 2 = .ok (.invokevirtual 114, 3) := by decide +kernel
theorem dX3_why_5 : decode cX3_why 5 = .ok (.astore_n 2, 1) := by decide +kernel
theorem dX3_why_6 : decode cX3_why 6 = .ok (.aload_n 2, 1) := by decide +kernel
theorem dX3_why_7 : decode cX3_why 7 = .ok (.getfield 125, 3) := by decide +kernel
theorem dX3_why_10 : decode cX3_why 10 = .ok (.iconst 2, 1) := by decide +kernel
theorem dX3_why_11 : decode cX3_why 11 = .ok (.if_icmp .ne 11, 3) := by decide +kernel
theorem dX3_why_14 : decode cX3_why 14 = .ok (.aload_n 0, 1) := by decide +kernel
theorem dX3_why_15 : decode cX3_why 15 = .ok (.aload_n 2, 1) := by decide +kernel
theorem dX3_why_16 : decode cX3_why 16 = .ok (.invokevirtual 199, 3) := by decide +kernel
theorem dX3_why_19 : decode cX3_why 19 = .ok (.goto 4, 3) := by decide +kernel
theorem dX3_why_22 : decode cX3_why 22 = .ok (.iconst (-1), 1) := by decide +kernel
theorem dX3_why_23 : decode cX3_why 23 = .ok (.ireturn, 1) := by decide +kernel
theorem dX3_speed_0 : decode cX3_speed 0 = .ok (.aload_n 0, 1) := by decide +kernel
theorem dX3_speed_1 : decode cX3_speed 1 = .ok (.iload_n 2, 1) := by decide +kernel
theorem dX3_speed_2 : decode cX3_speed 2 = .ok (.invokevirtual 78, 3) := by decide +kernel
theorem dX3_speed_5 : decode cX3_speed 5 = .ok (.aload_n 0, 1) := by decide +kernel
theorem dX3_speed_6 : decode cX3_speed 6 = .ok (.iload_n 1, 1) := by decide +kernel
theorem dX3_speed_7 : decode cX3_speed 7 = .ok (.invokevirtual 114, 3) := by decide +kernel
theorem dX3_speed_10 : decode cX3_speed 10 = .ok (.invokevirtual 203, 3) := by decide +kernel
theorem dX3_speed_13 : decode cX3_speed 13 = .ok (.ireturn, 1) := by decide +kernel
theorem dX3_minutes_0 : decode cX3_minutes 0 = .ok (.aload_n 0, 1) := by decide +kernel
theorem dX3_minutes_1 : decode cX3_minutes 1 = .ok (.iload_n 2, 1) := by decide +kernel
theorem dX3_minutes_2 : decode cX3_minutes 2 = .ok (.invokevirtual 78, 3) := by decide +kernel
theorem dX3_minutes_5 : decode cX3_minutes 5 = .ok (.aload_n 0, 1) := by decide +kernel
theorem dX3_minutes_6 : decode cX3_minutes 6 = .ok (.iload_n 1, 1) := by decide +kernel
theorem dX3_minutes_7 : decode cX3_minutes 7 = .ok (.invokevirtual 114, 3) := by decide +kernel
theorem dX3_minutes_10 : decode cX3_minutes 10 = .ok (.invokevirtual 206, 3) := by decide +kernel
theorem dX3_minutes_13 : decode cX3_minutes 13 = .ok (.ireturn, 1) := by decide +kernel
theorem dX3_minutesAnew_0 : decode cX3_minutesAnew 0 = .ok (.aload_n 0, 1) := by decide +kernel
theorem dX3_minutesAnew_1 : decode cX3_minutesAnew 1 = .ok (.iload_n 2, 1) := by decide +kernel
theorem dX3_minutesAnew_2 : decode cX3_minutesAnew 2 = .ok (.invokevirtual 78, 3) := by decide +kernel
theorem dX3_minutesAnew_5 : decode cX3_minutesAnew 5 = .ok (.astore_n 3, 1) := by decide +kernel
theorem dX3_minutesAnew_6 : decode cX3_minutesAnew 6 = .ok (.bipush 6, 2) := by decide +kernel
theorem dX3_minutesAnew_8 : decode cX3_minutesAnew 8 = .ok (.aload_n 3, 1) := by decide +kernel
theorem dX3_minutesAnew_9 : decode cX3_minutesAnew 9 = .ok (.aload_n 0, 1) := by decide +kernel
theorem dX3_minutesAnew_10 : decode cX3_minutesAnew 10 = .ok (.iload_n 1, 1) := by decide +kernel
theorem dX3_minutesAnew_11 : decode cX3_minutesAnew 11 = .ok (.invokevirtual 114, 3) := by decide +kernel
theorem dX3_minutesAnew_14 : decode cX3_minutesAnew 14 = .ok (.invokevirtual 203, 3) := by decide +kernel
theorem dX3_minutesAnew_17 : decode cX3_minutesAnew 17 = .ok (.imul, 1) := by decide +kernel
theorem dX3_minutesAnew_18 : decode cX3_minutesAnew 18 = .ok (.istore 4, 2) := by decide +kernel
theorem dX3_minutesAnew_20 : decode cX3_minutesAnew 20 = .ok (.iconst 0, 1) := by decide +kernel
theorem dX3_minutesAnew_21 : decode cX3_minutesAnew 21 = .ok (.istore 5, 2) := by decide +kernel
theorem dX3_minutesAnew_23 : decode cX3_minutesAnew 23 = .ok (.iconst 0, 1) := by decide +kernel
theorem dX3_minutesAnew_24 : decode cX3_minutesAnew 24 = .ok (.istore 6, 2) := by decide +kernel
theorem dX3_minutesAnew_26 : decode cX3_minutesAnew 26 = .ok (.iload 5, 2) := by decide +kernel
theorem dX3_minutesAnew_28 : decode cX3_minutesAnew 28 = .ok (.aload_n 3, 1) := by decide +kernel
theorem dX3_minutesAnew_29 : decode cX3_minutesAnew 29 = .ok (.getfield 209, 3) := by decide +kernel
theorem dX3_minutesAnew_32 : decode cX3_minutesAnew 32 = .ok (.if_icmp .ge 24, 3) := by decide +kernel
theorem dX3_minutesAnew_35 : decode cX3_minutesAnew 35 = .ok (.iload 6, 2) := by decide +kernel
theorem dX3_minutesAnew_37 : decode cX3_minutesAnew 37 = .ok (.sipush 20000, 3) := by decide +kernel
theorem dX3_minutesAnew_40 : decode cX3_minutesAnew 40 = .ok (.if_icmp .ge 16, 3) := by decide +kernel
theorem dX3_minutesAnew_43 : decode cX3_minutesAnew 43 = .ok (.iload 5, 2) := by decide +kernel
theorem dX3_minutesAnew_45 : decode cX3_minutesAnew 45 = .ok (.iload 4, 2) := by decide +kernel
theorem dX3_minutesAnew_47 : decode cX3_minutesAnew 47 = .ok (.iadd, 1) := by decide +kernel
theorem dX3_minutesAnew_48 : decode cX3_minutesAnew 48 = .ok (.istore 5, 2) := by decide +kernel
theorem dX3_minutesAnew_50 : decode cX3_minutesAnew 50 = .ok (.iinc 6 1, 3) := by decide +kernel
theorem dX3_minutesAnew_53 : decode cX3_minutesAnew 53 = .ok (.goto (-27), 3) := by decide +kernel
theorem dX3_minutesAnew_56 : decode cX3_minutesAnew 56 = .ok (.iload 6, 2) := by decide +kernel
theorem dX3_minutesAnew_58 : decode cX3_minutesAnew 58 = .ok (.ireturn, 1) := by decide +kernel
theorem dX3_kilos_0 : decode cX3_kilos 0 = .ok (.iload_n 1, 1) := by decide +kernel
theorem dX3_kilos_1 : decode cX3_kilos 1 = .ok (.invokestatic 118, 3) := by decide +kernel
theorem dX3_kilos_4 : decode cX3_kilos 4 = .ok (.iload_n 2, 1) := by decide +kernel
theorem dX3_kilos_5 : decode cX3_kilos 5 = .ok (.iconst 0, 1) := by decide +kernel
theorem dX3_kilos_6 : decode cX3_kilos 6 = .ok (.iconst 4, 1) := by decide +kernel
theorem dX3_kilos_7 : decode cX3_kilos 7 = .ok (.invokestatic 42, 3) := by decide +kernel
theorem dX3_kilos_10 : decode cX3_kilos 10 = .ok (.iload_n 2, 1) := by decide +kernel
theorem dX3_kilos_11 : decode cX3_kilos 11 = .ok (.tableswitch 57 0 3 #[29, 36, 43, 50], 29) := by decide +kernel
theorem dX3_kilos_40 : decode cX3_kilos 40 = .ok (.aload_n 0, 1) := by decide +kernel
theorem dX3_kilos_41 : decode cX3_kilos 41 = .ok (.getfield 22, 3) := by decide +kernel
theorem dX3_kilos_44 : decode cX3_kilos 44 = .ok (.iload_n 1, 1) := by decide +kernel
theorem dX3_kilos_45 : decode cX3_kilos 45 = .ok (.iaload, 1) := by decide +kernel
theorem dX3_kilos_46 : decode cX3_kilos 46 = .ok (.ireturn, 1) := by decide +kernel
theorem dX3_kilos_47 : decode cX3_kilos 47 = .ok (.aload_n 0, 1) := by decide +kernel
theorem dX3_kilos_48 : decode cX3_kilos 48 = .ok (.getfield 26, 3) := by decide +kernel
theorem dX3_kilos_51 : decode cX3_kilos 51 = .ok (.iload_n 1, 1) := by decide +kernel
theorem dX3_kilos_52 : decode cX3_kilos 52 = .ok (.iaload, 1) := by decide +kernel
theorem dX3_kilos_53 : decode cX3_kilos 53 = .ok (.ireturn, 1) := by decide +kernel
theorem dX3_kilos_54 : decode cX3_kilos 54 = .ok (.aload_n 0, 1) := by decide +kernel
theorem dX3_kilos_55 : decode cX3_kilos 55 = .ok (.iload_n 1, 1) := by decide +kernel
theorem dX3_kilos_56 : decode cX3_kilos 56 = .ok (.iconst 0, 1) := by decide +kernel
theorem dX3_kilos_57 : decode cX3_kilos 57 = .ok (.invokevirtual 212, 3) := by decide +kernel
theorem dX3_kilos_60 : decode cX3_kilos 60 = .ok (.ireturn, 1) := by decide +kernel
theorem dX3_kilos_61 : decode cX3_kilos 61 = .ok (.aload_n 0, 1) := by decide +kernel
theorem dX3_kilos_62 : decode cX3_kilos 62 = .ok (.iload_n 1, 1) := by decide +kernel
theorem dX3_kilos_63 : decode cX3_kilos 63 = .ok (.iconst 1, 1) := by decide +kernel
theorem dX3_kilos_64 : decode cX3_kilos 64 = .ok (.invokevirtual 212, 3) := by decide +kernel
theorem dX3_kilos_67 : decode cX3_kilos 67 = .ok (.ireturn, 1) := by decide +kernel
theorem dX3_kilos_68 : decode cX3_kilos 68 = .ok (.aload_n 0, 1) := by decide +kernel
theorem dX3_kilos_69 : decode cX3_kilos 69 = .ok (.iload_n 1, 1) := by decide +kernel
theorem dX3_kilos_70 : decode cX3_kilos 70 = .ok (.invokevirtual 216, 3) := by decide +kernel
theorem dX3_kilos_73 : decode cX3_kilos 73 = .ok (.ireturn, 1) := by decide +kernel
theorem dX3_kilosAnew_0 : decode cX3_kilosAnew 0 = .ok (.iload_n 1, 1) := by decide +kernel
theorem dX3_kilosAnew_1 : decode cX3_kilosAnew 1 = .ok (.invokestatic 118, 3) := by decide +kernel
theorem dX3_kilosAnew_4 : decode cX3_kilosAnew 4 = .ok (.iconst 0, 1) := by decide +kernel
theorem dX3_kilosAnew_5 : decode cX3_kilosAnew 5 = .ok (.istore_n 2, 1) := by decide +kernel
theorem dX3_kilosAnew_6 : decode cX3_kilosAnew 6 = .ok (.iconst 0, 1) := by decide +kernel
theorem dX3_kilosAnew_7 : decode cX3_kilosAnew 7 = .ok (.istore_n 3, 1) := by decide +kernel
theorem dX3_kilosAnew_8 : decode cX3_kilosAnew 8 = .ok (.iload_n 3, 1) := by decide +kernel
theorem dX3_kilosAnew_9 : decode cX3_kilosAnew 9 = .ok (.aload_n 0, 1) := by decide +kernel
theorem dX3_kilosAnew_10 : decode cX3_kilosAnew 10 = .ok (.getfield 19, 3) := by decide +kernel
theorem dX3_kilosAnew_13 : decode cX3_kilosAnew 13 = .ok (.invokeinterface 46 1, 5) := by decide +kernel
theorem dX3_kilosAnew_18 : decode cX3_kilosAnew 18 = .ok (.if_icmp .ge 49, 3) := by decide +kernel
theorem dX3_kilosAnew_21 : decode cX3_kilosAnew 21 = .ok (.aload_n 0, 1) := by decide +kernel
theorem dX3_kilosAnew_22 : decode cX3_kilosAnew 22 = .ok (.getfield 19, 3) := by decide +kernel
theorem dX3_kilosAnew_25 : decode cX3_kilosAnew 25 = .ok (.iload_n 3, 1) := by decide +kernel
theorem dX3_kilosAnew_26 : decode cX3_kilosAnew 26 = .ok (.invokeinterface 71 2, 5) := by decide +kernel
theorem dX3_kilosAnew_31 : decode cX3_kilosAnew 31 = .ok (.checkcast 134, 3) := by decide +kernel
theorem dX3_kilosAnew_34 : decode cX3_kilosAnew 34 = .ok (.astore 4, 2) := by decide +kernel
theorem dX3_kilosAnew_36 : decode cX3_kilosAnew 36 = .ok (.aload 4, 2) := by decide +kernel
theorem dX3_kilosAnew_38 : decode cX3_kilosAnew 38 = .ok (.getfield 190, 3) := by decide +kernel
theorem dX3_kilosAnew_41 : decode cX3_kilosAnew 41 = .ok (.iload_n 1, 1) := by decide +kernel
theorem dX3_kilosAnew_42 : decode cX3_kilosAnew 42 = .ok (.if_icmp .ne 19, 3) := by decide +kernel
theorem dX3_kilosAnew_45 : decode cX3_kilosAnew 45 = .ok (.aload 4, 2) := by decide +kernel
theorem dX3_kilosAnew_47 : decode cX3_kilosAnew 47 = .ok (.getfield 220, 3) := by decide +kernel
theorem dX3_kilosAnew_50 : decode cX3_kilosAnew 50 = .ok (.ifCond .ne 11, 3) := by decide +kernel
theorem dX3_kilosAnew_53 : decode cX3_kilosAnew 53 = .ok (.iload_n 2, 1) := by decide +kernel
theorem dX3_kilosAnew_54 : decode cX3_kilosAnew 54 = .ok (.aload 4, 2) := by decide +kernel
theorem dX3_kilosAnew_56 : decode cX3_kilosAnew 56 = .ok (.getfield 187, 3) := by decide +kernel
theorem dX3_kilosAnew_59 : decode cX3_kilosAnew 59 = .ok (.iadd, 1) := by decide +kernel
theorem dX3_kilosAnew_60 : decode cX3_kilosAnew 60 = .ok (.istore_n 2, 1) := by decide +kernel
theorem dX3_kilosAnew_61 : decode cX3_kilosAnew 61 = .ok (.iinc 3 1, 3) := by decide +kernel
theorem dX3_kilosAnew_64 : decode cX3_kilosAnew 64 = .ok (.goto (-56), 3) := by decide +kernel
theorem dX3_kilosAnew_67 : decode cX3_kilosAnew 67 = .ok (.iload_n 2, 1) := by decide +kernel
theorem dX3_kilosAnew_68 : decode cX3_kilosAnew 68 = .ok (.ireturn, 1) := by decide +kernel
theorem dX3_bill_0 : decode cX3_bill 0 = .ok (.lconst 0, 1) := by decide +kernel
theorem dX3_bill_1 : decode cX3_bill 1 = .ok (.lstore_n 1, 1) := by decide +kernel
theorem dX3_bill_2 : decode cX3_bill 2 = .ok (.iconst 0, 1) := by decide +kernel
theorem dX3_bill_3 : decode cX3_bill 3 = .ok (.istore_n 3, 1) := by decide +kernel
theorem dX3_bill_4 : decode cX3_bill 4 = .ok (.iload_n 3, 1) := by decide +kernel
theorem dX3_bill_5 : decode cX3_bill 5 = .ok (.iconst 3, 1) := by decide +kernel
theorem dX3_bill_6 : decode cX3_bill 6 = .ok (.if_icmp .ge 30, 3) := by decide +kernel
theorem dX3_bill_9 : decode cX3_bill 9 = .ok (.lload_n 1, 1) := by decide +kernel
theorem dX3_bill_10 : decode cX3_bill 10 = .ok (.aload_n 0, 1) := by decide +kernel
theorem dX3_bill_11 : decode cX3_bill 11 = .ok (.getfield 26, 3) := by decide +kernel
theorem dX3_bill_14 : decode cX3_bill 14 = .ok (.iload_n 3, 1) := by decide +kernel
theorem dX3_bill_15 : decode cX3_bill 15 = .ok (.iaload, 1) := by decide +kernel
theorem dX3_bill_16 : decode cX3_bill 16 = .ok (.i2l, 1) := by decide +kernel
theorem dX3_bill_17 : decode cX3_bill 17 = .ok (.ldc2_w 223, 3) := by decide +kernel
theorem dX3_bill_20 : decode cX3_bill 20 = .ok (.aload_n 0, 1) := by decide +kernel
theorem dX3_bill_21 : decode cX3_bill 21 = .ok (.iload_n 3, 1) := by decide +kernel
theorem dX3_bill_22 : decode cX3_bill 22 = .ok (.invokevirtual 216, 3) := by decide +kernel
theorem dX3_bill_25 : decode cX3_bill 25 = .ok (.i2l, 1) := by decide +kernel
theorem dX3_bill_26 : decode cX3_bill 26 = .ok (.lmul, 1) := by decide +kernel
theorem dX3_bill_27 : decode cX3_bill 27 = .ok (.ladd, 1) := by decide +kernel
theorem dX3_bill_28 : decode cX3_bill 28 = .ok (.ladd, 1) := by decide +kernel
theorem dX3_bill_29 : decode cX3_bill 29 = .ok (.lstore_n 1, 1) := by decide +kernel
theorem dX3_bill_30 : decode cX3_bill 30 = .ok (.iinc 3 1, 3) := by decide +kernel
theorem dX3_bill_33 : decode cX3_bill 33 = .ok (.goto (-29), 3) := by decide +kernel
theorem dX3_bill_36 : decode cX3_bill 36 = .ok (.lload_n 1, 1) := by decide +kernel
theorem dX3_bill_37 : decode cX3_bill 37 = .ok (.lreturn, 1) := by decide +kernel
theorem dX3_needRange_0 : decode cX3_needRange 0 = .ok (.iload_n 0, 1) := by decide +kernel
theorem dX3_needRange_1 : decode cX3_needRange 1 = .ok (.iload_n 1, 1) := by decide +kernel
theorem dX3_needRange_2 : decode cX3_needRange 2 = .ok (.if_icmp .lt 8, 3) := by decide +kernel
theorem dX3_needRange_5 : decode cX3_needRange 5 = .ok (.iload_n 0, 1) := by decide +kernel
theorem dX3_needRange_6 : decode cX3_needRange 6 = .ok (.iload_n 2, 1) := by decide +kernel
theorem dX3_needRange_7 : decode cX3_needRange 7 = .ok (.if_icmp .le 13, 3) := by decide +kernel
theorem dX3_needRange_10 : decode cX3_needRange 10 = .ok (.new 225, 3) := by decide +kernel
theorem dX3_needRange_13 : decode cX3_needRange 13 = .ok (.dup, 1) := by decide +kernel
theorem dX3_needRange_14 : decode cX3_needRange 14 = .ok (.ldc 227, 2) := by decide +kernel
theorem dX3_needRange_16 : decode cX3_needRange 16 = .ok (.invokespecial 229, 3) := by decide +kernel
theorem dX3_needRange_19 : decode cX3_needRange 19 = .ok (.athrow, 1) := by decide +kernel
theorem dX3_needRange_20 : decode cX3_needRange 20 = .ok (.return_, 1) := by decide +kernel
theorem dX3_needGoods_0 : decode cX3_needGoods 0 = .ok (.iload_n 0, 1) := by decide +kernel
theorem dX3_needGoods_1 : decode cX3_needGoods 1 = .ok (.ifCond .lt 8, 3) := by decide +kernel
theorem dX3_needGoods_4 : decode cX3_needGoods 4 = .ok (.iload_n 0, 1) := by decide +kernel
theorem dX3_needGoods_5 : decode cX3_needGoods 5 = .ok (.iconst 3, 1) := by decide +kernel
theorem dX3_needGoods_6 : decode cX3_needGoods 6 = .ok (.if_icmp .lt 13, 3) := by decide +kernel
theorem dX3_needGoods_9 : decode cX3_needGoods 9 = .ok (.new 230, 3) := by decide +kernel
theorem dX3_needGoods_12 : decode cX3_needGoods 12 = .ok (.dup, 1) := by decide +kernel
theorem dX3_needGoods_13 : decode cX3_needGoods 13 = .ok (.ldc 232, 2) := by decide +kernel
theorem dX3_needGoods_15 : decode cX3_needGoods 15 = .ok (.invokespecial 234, 3) := by decide +kernel
theorem dX3_needGoods_18 : decode cX3_needGoods 18 = .ok (.athrow, 1) := by decide +kernel
theorem dX3_needGoods_19 : decode cX3_needGoods 19 = .ok (.return_, 1) := by decide +kernel
theorem dX3_pieceNumbered_0 : decode cX3_pieceNumbered 0 = .ok (.iload_n 1, 1) := by decide +kernel
theorem dX3_pieceNumbered_1 : decode cX3_pieceNumbered 1 = .ok (.ifCond .lt 16, 3) := by decide +kernel
theorem dX3_pieceNumbered_4 : decode cX3_pieceNumbered 4 = .ok (.iload_n 1, 1) := by decide +kernel
theorem dX3_pieceNumbered_5 : decode cX3_pieceNumbered 5 = .ok (.aload_n 0, 1) := by decide +kernel
theorem dX3_pieceNumbered_6 : decode cX3_pieceNumbered 6 = .ok (.getfield 10, 3) := by decide +kernel
theorem dX3_pieceNumbered_9 : decode cX3_pieceNumbered 9 = .ok (.invokeinterface 46 1, 5) := by decide +kernel
theorem dX3_pieceNumbered_14 : decode cX3_pieceNumbered 14 = .ok (.if_icmp .lt 13, 3) := by decide +kernel
theorem dX3_pieceNumbered_17 : decode cX3_pieceNumbered 17 = .ok (.new 230, 3) := by decide +kernel
theorem dX3_pieceNumbered_20 : decode cX3_pieceNumbered 20 = .ok (.dup, 1) := by decide +kernel
theorem dX3_pieceNumbered_21 : decode cX3_pieceNumbered 21 = .ok (.ldc 235, 2) := by decide +kernel
theorem dX3_pieceNumbered_23 : decode cX3_pieceNumbered 23 = .ok (.invokespecial 234, 3) := by decide +kernel
theorem dX3_pieceNumbered_26 : decode cX3_pieceNumbered 26 = .ok (.athrow, 1) := by decide +kernel
theorem dX3_pieceNumbered_27 : decode cX3_pieceNumbered 27 = .ok (.aload_n 0, 1) := by decide +kernel
theorem dX3_pieceNumbered_28 : decode cX3_pieceNumbered 28 = .ok (.getfield 10, 3) := by decide +kernel
theorem dX3_pieceNumbered_31 : decode cX3_pieceNumbered 31 = .ok (.iload_n 1, 1) := by decide +kernel
theorem dX3_pieceNumbered_32 : decode cX3_pieceNumbered 32 = .ok (.invokeinterface 71 2, 5) := by decide +kernel
theorem dX3_pieceNumbered_37 : decode cX3_pieceNumbered 37 = .ok (.checkcast 63, 3) := by decide +kernel
theorem dX3_pieceNumbered_40 : decode cX3_pieceNumbered 40 = .ok (.areturn, 1) := by decide +kernel
theorem dX3_vehicleNumbered_0 : decode cX3_vehicleNumbered 0 = .ok (.iload_n 1, 1) := by decide +kernel
theorem dX3_vehicleNumbered_1 : decode cX3_vehicleNumbered 1 = .ok (.ifCond .lt 16, 3) := by decide +kernel
theorem dX3_vehicleNumbered_4 : decode cX3_vehicleNumbered 4 = .ok (.iload_n 1, 1) := by decide +kernel
theorem dX3_vehicleNumbered_5 : decode cX3_vehicleNumbered 5 = .ok (.aload_n 0, 1) := by decide +kernel
theorem dX3_vehicleNumbered_6 : decode cX3_vehicleNumbered 6 = .ok (.getfield 16, 3) := by decide +kernel
theorem dX3_vehicleNumbered_9 : decode cX3_vehicleNumbered 9 = .ok (.invokeinterface 46 1, 5) := by decide +kernel
theorem dX3_vehicleNumbered_14 : decode cX3_vehicleNumbered 14 = .ok (.if_icmp .lt 13, 3) := by decide +kernel
theorem dX3_vehicleNumbered_17 : decode cX3_vehicleNumbered 17 = .ok (.new 230, 3) := by decide +kernel
theorem dX3_vehicleNumbered_20 : decode cX3_vehicleNumbered 20 = .ok (.dup, 1) := by decide +kernel
theorem dX3_vehicleNumbered_21 : decode cX3_vehicleNumbered 21 = .ok (.ldc 237, 2) := by decide +kernel
theorem dX3_vehicleNumbered_23 : decode cX3_vehicleNumbered 23 = .ok (.invokespecial 234, 3) := by decide +kernel
theorem dX3_vehicleNumbered_26 : decode cX3_vehicleNumbered 26 = .ok (.athrow, 1) := by decide +kernel
theorem dX3_vehicleNumbered_27 : decode cX3_vehicleNumbered 27 = .ok (.aload_n 0, 1) := by decide +kernel
theorem dX3_vehicleNumbered_28 : decode cX3_vehicleNumbered 28 = .ok (.getfield 16, 3) := by decide +kernel
theorem dX3_vehicleNumbered_31 : decode cX3_vehicleNumbered 31 = .ok (.iload_n 1, 1) := by decide +kernel
theorem dX3_vehicleNumbered_32 : decode cX3_vehicleNumbered 32 = .ok (.invokeinterface 71 2, 5) := by decide +kernel
theorem dX3_vehicleNumbered_37 : decode cX3_vehicleNumbered 37 = .ok (.checkcast 111, 3) := by decide +kernel
theorem dX3_vehicleNumbered_40 : decode cX3_vehicleNumbered 40 = .ok (.areturn, 1) := by decide +kernel
theorem dX3_kilosInVehicles_0 : decode cX3_kilosInVehicles 0 = .ok (.iconst 0, 1) := by decide +kernel
theorem dX3_kilosInVehicles_1 : decode cX3_kilosInVehicles 1 = .ok (.istore_n 3, 1) := by decide +kernel
theorem dX3_kilosInVehicles_2 : decode cX3_kilosInVehicles 2 = .ok (.iconst 0, 1) := by decide +kernel
theorem dX3_kilosInVehicles_3 : decode cX3_kilosInVehicles 3 = .ok (.istore 4, 2) := by decide +kernel
theorem dX3_kilosInVehicles_5 : decode cX3_kilosInVehicles 5 = .ok (.iload 4, 2) := by decide +kernel
theorem dX3_kilosInVehicles_7 : decode cX3_kilosInVehicles 7 = .ok (.aload_n 0, 1) := by decide +kernel
theorem dX3_kilosInVehicles_8 : decode cX3_kilosInVehicles 8 = .ok (.getfield 16, 3) := by decide +kernel
theorem dX3_kilosInVehicles_11 : decode cX3_kilosInVehicles 11 = .ok (.invokeinterface 46 1, 5) := by decide +kernel
theorem dX3_kilosInVehicles_16 : decode cX3_kilosInVehicles 16 = .ok (.if_icmp .ge 74, 3) := by decide +kernel
theorem dX3_kilosInVehicles_19 : decode cX3_kilosInVehicles 19 = .ok (.aload_n 0, 1) := by decide +kernel
theorem dX3_kilosInVehicles_20 : decode cX3_kilosInVehicles 20 = .ok (.getfield 16, 3) := by decide +kernel
theorem dX3_kilosInVehicles_23 : decode cX3_kilosInVehicles 23 = .ok (.iload 4, 2) := by decide +kernel
theorem dX3_kilosInVehicles_25 : decode cX3_kilosInVehicles 25 = .ok (.invokeinterface 71 2, 5) := by decide +kernel
theorem dX3_kilosInVehicles_30 : decode cX3_kilosInVehicles 30 = .ok (.checkcast 111, 3) := by decide +kernel
theorem dX3_kilosInVehicles_33 : decode cX3_kilosInVehicles 33 = .ok (.astore 5, 2) := by decide +kernel
theorem dX3_kilosInVehicles_35 : decode cX3_kilosInVehicles 35 = .ok (.aload 5, 2) := by decide +kernel
theorem dX3_kilosInVehicles_37 : decode cX3_kilosInVehicles 37 = .ok (.getfield 128, 3) := by decide +kernel
theorem dX3_kilosInVehicles_40 : decode cX3_kilosInVehicles 40 = .ok (.ifnull 44, 3) := by decide +kernel
theorem dX3_kilosInVehicles_43 : decode cX3_kilosInVehicles 43 = .ok (.aload 5, 2) := by decide +kernel
theorem dX3_kilosInVehicles_45 : decode cX3_kilosInVehicles 45 = .ok (.getfield 128, 3) := by decide +kernel
theorem dX3_kilosInVehicles_48 : decode cX3_kilosInVehicles 48 = .ok (.getfield 190, 3) := by decide +kernel
theorem dX3_kilosInVehicles_51 : decode cX3_kilosInVehicles 51 = .ok (.iload_n 1, 1) := by decide +kernel
theorem dX3_kilosInVehicles_52 : decode cX3_kilosInVehicles 52 = .ok (.if_icmp .ne 32, 3) := by decide +kernel
theorem dX3_kilosInVehicles_55 : decode cX3_kilosInVehicles 55 = .ok (.aload 5, 2) := by decide +kernel
theorem dX3_kilosInVehicles_57 : decode cX3_kilosInVehicles 57 = .ok (.getfield 125, 3) := by decide +kernel
theorem dX3_kilosInVehicles_60 : decode cX3_kilosInVehicles 60 = .ok (.iconst 4, 1) := by decide +kernel
theorem dX3_kilosInVehicles_61 : decode cX3_kilosInVehicles 61 = .ok (.if_icmp .ne 7, 3) := by decide +kernel
theorem dX3_kilosInVehicles_64 : decode cX3_kilosInVehicles 64 = .ok (.iconst 1, 1) := by decide +kernel
theorem dX3_kilosInVehicles_65 : decode cX3_kilosInVehicles 65 = .ok (.goto 4, 3) := by decide +kernel
theorem dX3_kilosInVehicles_68 : decode cX3_kilosInVehicles 68 = .ok (.iconst 0, 1) := by decide +kernel
theorem dX3_kilosInVehicles_69 : decode cX3_kilosInVehicles 69 = .ok (.iload_n 2, 1) := by decide +kernel
theorem dX3_kilosInVehicles_70 : decode cX3_kilosInVehicles 70 = .ok (.if_icmp .ne 14, 3) := by decide +kernel
theorem dX3_kilosInVehicles_73 : decode cX3_kilosInVehicles 73 = .ok (.iload_n 3, 1) := by decide +kernel
theorem dX3_kilosInVehicles_74 : decode cX3_kilosInVehicles 74 = .ok (.aload 5, 2) := by decide +kernel
theorem dX3_kilosInVehicles_76 : decode cX3_kilosInVehicles 76 = .ok (.getfield 128, 3) := by decide +kernel
theorem dX3_kilosInVehicles_79 : decode cX3_kilosInVehicles 79 = .ok (.getfield 187, 3) := by decide +kernel
theorem dX3_kilosInVehicles_82 : decode cX3_kilosInVehicles 82 = .ok (.iadd, 1) := by decide +kernel
theorem dX3_kilosInVehicles_83 : decode cX3_kilosInVehicles 83 = .ok (.istore_n 3, 1) := by decide +kernel
theorem dX3_kilosInVehicles_84 : decode cX3_kilosInVehicles 84 = .ok (.iinc 4 1, 3) := by decide +kernel
theorem dX3_kilosInVehicles_87 : decode cX3_kilosInVehicles 87 = .ok (.goto (-82), 3) := by decide +kernel
theorem dX3_kilosInVehicles_90 : decode cX3_kilosInVehicles 90 = .ok (.iload_n 3, 1) := by decide +kernel
theorem dX3_kilosInVehicles_91 : decode cX3_kilosInVehicles 91 = .ok (.ireturn, 1) := by decide +kernel
theorem dX3_kilosMissing_0 : decode cX3_kilosMissing 0 = .ok (.iload_n 1, 1) := by decide +kernel
theorem dX3_kilosMissing_1 : decode cX3_kilosMissing 1 = .ok (.ifCond .lt 8, 3) := by decide +kernel
theorem dX3_kilosMissing_4 : decode cX3_kilosMissing 4 = .ok (.iload_n 1, 1) := by decide +kernel
theorem dX3_kilosMissing_5 : decode cX3_kilosMissing 5 = .ok (.iconst 3, 1) := by decide +kernel
theorem dX3_kilosMissing_6 : decode cX3_kilosMissing 6 = .ok (.if_icmp .lt 5, 3) := by decide +kernel
theorem dX3_kilosMissing_9 : decode cX3_kilosMissing 9 = .ok (.iconst 0, 1) := by decide +kernel
theorem dX3_kilosMissing_10 : decode cX3_kilosMissing 10 = .ok (.ireturn, 1) := by decide +kernel
theorem dX3_kilosMissing_11 : decode cX3_kilosMissing 11 = .ok (.iconst 0, 1) := by decide +kernel
theorem dX3_kilosMissing_12 : decode cX3_kilosMissing 12 = .ok (.aload_n 0, 1) := by decide +kernel
theorem dX3_kilosMissing_13 : decode cX3_kilosMissing 13 = .ok (.getfield 29, 3) := by decide +kernel
theorem dX3_kilosMissing_16 : decode cX3_kilosMissing 16 = .ok (.iload_n 1, 1) := by decide +kernel
theorem dX3_kilosMissing_17 : decode cX3_kilosMissing 17 = .ok (.iaload, 1) := by decide +kernel
theorem dX3_kilosMissing_18 : decode cX3_kilosMissing 18 = .ok (.aload_n 0, 1) := by decide +kernel
theorem dX3_kilosMissing_19 : decode cX3_kilosMissing 19 = .ok (.getfield 26, 3) := by decide +kernel
theorem dX3_kilosMissing_22 : decode cX3_kilosMissing 22 = .ok (.iload_n 1, 1) := by decide +kernel
theorem dX3_kilosMissing_23 : decode cX3_kilosMissing 23 = .ok (.iaload, 1) := by decide +kernel
theorem dX3_kilosMissing_24 : decode cX3_kilosMissing 24 = .ok (.isub, 1) := by decide +kernel
theorem dX3_kilosMissing_25 : decode cX3_kilosMissing 25 = .ok (.invokestatic 239, 3) := by decide +kernel
theorem dX3_kilosMissing_28 : decode cX3_kilosMissing 28 = .ok (.ireturn, 1) := by decide +kernel
theorem dX3_unload_0 : decode cX3_unload 0 = .ok (.aload_n 1, 1) := by decide +kernel
theorem dX3_unload_1 : decode cX3_unload 1 = .ok (.getfield 128, 3) := by decide +kernel
theorem dX3_unload_4 : decode cX3_unload 4 = .ok (.astore_n 2, 1) := by decide +kernel
theorem dX3_unload_5 : decode cX3_unload 5 = .ok (.aload_n 1, 1) := by decide +kernel
theorem dX3_unload_6 : decode cX3_unload 6 = .ok (.aconst_null, 1) := by decide +kernel
theorem dX3_unload_7 : decode cX3_unload 7 = .ok (.putfield 128, 3) := by decide +kernel
theorem dX3_unload_10 : decode cX3_unload 10 = .ok (.aload_n 2, 1) := by decide +kernel
theorem dX3_unload_11 : decode cX3_unload 11 = .ok (.ifnull 18, 3) := by decide +kernel
theorem dX3_unload_14 : decode cX3_unload 14 = .ok (.aload_n 2, 1) := by decide +kernel
theorem dX3_unload_15 : decode cX3_unload 15 = .ok (.getfield 190, 3) := by decide +kernel
theorem dX3_unload_18 : decode cX3_unload 18 = .ok (.ifCond .lt 11, 3) := by decide +kernel
theorem dX3_unload_21 : decode cX3_unload 21 = .ok (.aload_n 2, 1) := by decide +kernel
theorem dX3_unload_22 : decode cX3_unload 22 = .ok (.getfield 190, 3) := by decide +kernel
theorem dX3_unload_25 : decode cX3_unload 25 = .ok (.iconst 3, 1) := by decide +kernel
theorem dX3_unload_26 : decode cX3_unload 26 = .ok (.if_icmp .lt 4, 3) := by decide +kernel
theorem dX3_unload_29 : decode cX3_unload 29 = .ok (.return_, 1) := by decide +kernel
theorem dX3_unload_30 : decode cX3_unload 30 = .ok (.aload_n 1, 1) := by decide +kernel
theorem dX3_unload_31 : decode cX3_unload 31 = .ok (.getfield 125, 3) := by decide +kernel
theorem dX3_unload_34 : decode cX3_unload 34 = .ok (.iconst 3, 1) := by decide +kernel
theorem dX3_unload_35 : decode cX3_unload 35 = .ok (.if_icmp .ne 22, 3) := by decide +kernel
theorem dX3_unload_38 : decode cX3_unload 38 = .ok (.aload_n 0, 1) := by decide +kernel
theorem dX3_unload_39 : decode cX3_unload 39 = .ok (.getfield 26, 3) := by decide +kernel
theorem dX3_unload_42 : decode cX3_unload 42 = .ok (.aload_n 2, 1) := by decide +kernel
theorem dX3_unload_43 : decode cX3_unload 43 = .ok (.getfield 190, 3) := by decide +kernel
theorem dX3_unload_46 : decode cX3_unload 46 = .ok (.dup2, 1) := by decide +kernel
theorem dX3_unload_47 : decode cX3_unload 47 = .ok (.iaload, 1) := by decide +kernel
theorem dX3_unload_48 : decode cX3_unload 48 = .ok (.aload_n 2, 1) := by decide +kernel
theorem dX3_unload_49 : decode cX3_unload 49 = .ok (.getfield 187, 3) := by decide +kernel
theorem dX3_unload_52 : decode cX3_unload 52 = .ok (.iadd, 1) := by decide +kernel
theorem dX3_unload_53 : decode cX3_unload 53 = .ok (.iastore, 1) := by decide +kernel
theorem dX3_unload_54 : decode cX3_unload 54 = .ok (.goto 24, 3) := by decide +kernel
theorem dX3_unload_57 : decode cX3_unload 57 = .ok (.aload_n 0, 1) := by decide +kernel
theorem dX3_unload_58 : decode cX3_unload 58 = .ok (.getfield 22, 3) := by decide +kernel
theorem dX3_unload_61 : decode cX3_unload 61 = .ok (.aload_n 2, 1) := by decide +kernel
theorem dX3_unload_62 : decode cX3_unload 62 = .ok (.getfield 190, 3) := by decide +kernel
theorem dX3_unload_65 : decode cX3_unload 65 = .ok (.dup2, 1) := by decide +kernel
theorem dX3_unload_66 : decode cX3_unload 66 = .ok (.iaload, 1) := by decide +kernel
theorem dX3_unload_67 : decode cX3_unload 67 = .ok (.aload_n 2, 1) := by decide +kernel
theorem dX3_unload_68 : decode cX3_unload 68 = .ok (.getfield 187, 3) := by decide +kernel
theorem dX3_unload_71 : decode cX3_unload 71 = .ok (.isub, 1) := by decide +kernel
theorem dX3_unload_72 : decode cX3_unload 72 = .ok (.iastore, 1) := by decide +kernel
theorem dX3_unload_73 : decode cX3_unload 73 = .ok (.aload_n 2, 1) := by decide +kernel
theorem dX3_unload_74 : decode cX3_unload 74 = .ok (.iconst 1, 1) := by decide +kernel
theorem dX3_unload_75 : decode cX3_unload 75 = .ok (.putfield 220, 3) := by decide +kernel
theorem dX3_unload_78 : decode cX3_unload 78 = .ok (.return_, 1) := by decide +kernel
theorem dX3_passOneMinute_0 : decode cX3_passOneMinute 0 = .ok (.aload_n 0, 1) := by decide +kernel
theorem dX3_passOneMinute_1 : decode cX3_passOneMinute 1 = .ok (.dup, 1) := by decide +kernel
theorem dX3_passOneMinute_2 : decode cX3_passOneMinute 2 = .ok (.getfield 32, 3) := by decide +kernel
theorem dX3_passOneMinute_5 : decode cX3_passOneMinute 5 = .ok (.iconst 1, 1) := by decide +kernel
theorem dX3_passOneMinute_6 : decode cX3_passOneMinute 6 = .ok (.iadd, 1) := by decide +kernel
theorem dX3_passOneMinute_7 : decode cX3_passOneMinute 7 = .ok (.putfield 32, 3) := by decide +kernel
theorem dX3_passOneMinute_10 : decode cX3_passOneMinute 10 = .ok (.aload_n 0, 1) := by decide +kernel
theorem dX3_passOneMinute_11 : decode cX3_passOneMinute 11 = .ok (.getfield 32, 3) := by decide +kernel
theorem dX3_passOneMinute_14 : decode cX3_passOneMinute 14 = .ok (.sipush 1440, 3) := by decide +kernel
theorem dX3_passOneMinute_17 : decode cX3_passOneMinute 17 = .ok (.irem, 1) := by decide +kernel
theorem dX3_passOneMinute_18 : decode cX3_passOneMinute 18 = .ok (.ifCond .ne 7, 3) := by decide +kernel
theorem dX3_passOneMinute_21 : decode cX3_passOneMinute 21 = .ok (.aload_n 0, 1) := by decide +kernel
theorem dX3_passOneMinute_22 : decode cX3_passOneMinute 22 = .ok (.invokevirtual 245, 3) := by decide +kernel
theorem dX3_passOneMinute_25 : decode cX3_passOneMinute 25 = .ok (.iconst 0, 1) := by decide +kernel
theorem dX3_passOneMinute_26 : decode cX3_passOneMinute 26 = .ok (.istore_n 1, 1) := by decide +kernel
theorem dX3_passOneMinute_27 : decode cX3_passOneMinute 27 = .ok (.iload_n 1, 1) := by decide +kernel
theorem dX3_passOneMinute_28 : decode cX3_passOneMinute 28 = .ok (.aload_n 0, 1) := by decide +kernel
theorem dX3_passOneMinute_29 : decode cX3_passOneMinute 29 = .ok (.getfield 16, 3) := by decide +kernel
theorem dX3_passOneMinute_32 : decode cX3_passOneMinute 32 = .ok (.invokeinterface 46 1, 5) := by decide +kernel
theorem dX3_passOneMinute_37 : decode cX3_passOneMinute 37 = .ok (.if_icmp .ge 26, 3) := by decide +kernel
theorem dX3_passOneMinute_40 : decode cX3_passOneMinute 40 = .ok (.aload_n 0, 1) := by decide +kernel
theorem dX3_passOneMinute_41 : decode cX3_passOneMinute 41 = .ok (.aload_n 0, 1) := by decide +kernel
theorem dX3_passOneMinute_42 : decode cX3_passOneMinute 42 = .ok (.getfield 16, 3) := by decide +kernel
theorem dX3_passOneMinute_45 : decode cX3_passOneMinute 45 = .ok (.iload_n 1, 1) := by decide +kernel
theorem dX3_passOneMinute_46 : decode cX3_passOneMinute 46 = .ok (.invokeinterface 71 2, 5) := by decide +kernel
theorem dX3_passOneMinute_51 : decode cX3_passOneMinute 51 = .ok (.checkcast 111, 3) := by decide +kernel
theorem dX3_passOneMinute_54 : decode cX3_passOneMinute 54 = .ok (.invokevirtual 248, 3) := by decide +kernel
theorem dX3_passOneMinute_57 : decode cX3_passOneMinute 57 = .ok (.iinc 1 1, 3) := by decide +kernel
theorem dX3_passOneMinute_60 : decode cX3_passOneMinute 60 = .ok (.goto (-33), 3) := by decide +kernel
theorem dX3_passOneMinute_63 : decode cX3_passOneMinute 63 = .ok (.return_, 1) := by decide +kernel
theorem dX3_endDay_0 : decode cX3_endDay 0 = .ok (.iconst 0, 1) := by decide +kernel
theorem dX3_endDay_1 : decode cX3_endDay 1 = .ok (.istore_n 1, 1) := by decide +kernel
theorem dX3_endDay_2 : decode cX3_endDay 2 = .ok (.iload_n 1, 1) := by decide +kernel
theorem dX3_endDay_3 : decode cX3_endDay 3 = .ok (.aload_n 0, 1) := by decide +kernel
theorem dX3_endDay_4 : decode cX3_endDay 4 = .ok (.getfield 10, 3) := by decide +kernel
theorem dX3_endDay_7 : decode cX3_endDay 7 = .ok (.invokeinterface 46 1, 5) := by decide +kernel
theorem dX3_endDay_12 : decode cX3_endDay 12 = .ok (.if_icmp .ge 67, 3) := by decide +kernel
theorem dX3_endDay_15 : decode cX3_endDay 15 = .ok (.aload_n 0, 1) := by decide +kernel
theorem dX3_endDay_16 : decode cX3_endDay 16 = .ok (.getfield 36, 3) := by decide +kernel
theorem dX3_endDay_19 : decode cX3_endDay 19 = .ok (.ifCond .le 26, 3) := by decide +kernel
theorem dX3_endDay_22 : decode cX3_endDay 22 = .ok (.aload_n 0, 1) := by decide +kernel
theorem dX3_endDay_23 : decode cX3_endDay 23 = .ok (.getfield 10, 3) := by decide +kernel
theorem dX3_endDay_26 : decode cX3_endDay 26 = .ok (.iload_n 1, 1) := by decide +kernel
theorem dX3_endDay_27 : decode cX3_endDay 27 = .ok (.invokeinterface 71 2, 5) := by decide +kernel
theorem dX3_endDay_32 : decode cX3_endDay 32 = .ok (.checkcast 63, 3) := by decide +kernel
theorem dX3_endDay_35 : decode cX3_endDay 35 = .ok (.aload_n 0, 1) := by decide +kernel
theorem dX3_endDay_36 : decode cX3_endDay 36 = .ok (.getfield 36, 3) := by decide +kernel
theorem dX3_endDay_39 : decode cX3_endDay 39 = .ok (.invokevirtual 251, 3) := by decide +kernel
theorem dX3_endDay_42 : decode cX3_endDay 42 = .ok (.goto 31, 3) := by decide +kernel
theorem dX3_endDay_45 : decode cX3_endDay 45 = .ok (.aload_n 0, 1) := by decide +kernel
theorem dX3_endDay_46 : decode cX3_endDay 46 = .ok (.getfield 36, 3) := by decide +kernel
theorem dX3_endDay_49 : decode cX3_endDay 49 = .ok (.ifCond .ge 24, 3) := by decide +kernel
theorem dX3_endDay_52 : decode cX3_endDay 52 = .ok (.aload_n 0, 1) := by decide +kernel
theorem dX3_endDay_53 : decode cX3_endDay 53 = .ok (.getfield 10, 3) := by decide +kernel
theorem dX3_endDay_56 : decode cX3_endDay 56 = .ok (.iload_n 1, 1) := by decide +kernel
theorem dX3_endDay_57 : decode cX3_endDay 57 = .ok (.invokeinterface 71 2, 5) := by decide +kernel
theorem dX3_endDay_62 : decode cX3_endDay 62 = .ok (.checkcast 63, 3) := by decide +kernel
theorem dX3_endDay_65 : decode cX3_endDay 65 = .ok (.aload_n 0, 1) := by decide +kernel
theorem dX3_endDay_66 : decode cX3_endDay 66 = .ok (.getfield 36, 3) := by decide +kernel
theorem dX3_endDay_69 : decode cX3_endDay 69 = .ok (.ineg, 1) := by decide +kernel
theorem dX3_endDay_70 : decode cX3_endDay 70 = .ok (.invokevirtual 254, 3) := by decide +kernel
theorem dX3_endDay_73 : decode cX3_endDay 73 = .ok (.iinc 1 1, 3) := by decide +kernel
theorem dX3_endDay_76 : decode cX3_endDay 76 = .ok (.goto (-74), 3) := by decide +kernel
theorem dX3_endDay_79 : decode cX3_endDay 79 = .ok (.return_, 1) := by decide +kernel
theorem dX3_moveOn_0 : decode cX3_moveOn 0 = .ok (.aload_n 1, 1) := by decide +kernel
theorem dX3_moveOn_1 : decode cX3_moveOn 1 = .ok (.getfield 125, 3) := by decide +kernel
theorem dX3_moveOn_4 : decode cX3_moveOn 4 = .ok (.iconst 1, 1) := by decide +kernel
theorem dX3_moveOn_5 : decode cX3_moveOn 5 = .ok (.if_icmp .ne 19, 3) := by decide +kernel
theorem dX3_moveOn_8 : decode cX3_moveOn 8 = .ok (.aload_n 1, 1) := by decide +kernel
theorem dX3_moveOn_9 : decode cX3_moveOn 9 = .ok (.getfield 196, 3) := by decide +kernel
theorem dX3_moveOn_12 : decode cX3_moveOn 12 = .ok (.aload_n 0, 1) := by decide +kernel
theorem dX3_moveOn_13 : decode cX3_moveOn 13 = .ok (.getfield 32, 3) := by decide +kernel
theorem dX3_moveOn_16 : decode cX3_moveOn 16 = .ok (.if_icmp .gt 8, 3) := by decide +kernel
theorem dX3_moveOn_19 : decode cX3_moveOn 19 = .ok (.aload_n 0, 1) := by decide +kernel
theorem dX3_moveOn_20 : decode cX3_moveOn 20 = .ok (.aload_n 1, 1) := by decide +kernel
theorem dX3_moveOn_21 : decode cX3_moveOn 21 = .ok (.invokevirtual 257, 3) := by decide +kernel
theorem dX3_moveOn_24 : decode cX3_moveOn 24 = .ok (.aload_n 1, 1) := by decide +kernel
theorem dX3_moveOn_25 : decode cX3_moveOn 25 = .ok (.getfield 125, 3) := by decide +kernel
theorem dX3_moveOn_28 : decode cX3_moveOn 28 = .ok (.iconst 2, 1) := by decide +kernel
theorem dX3_moveOn_29 : decode cX3_moveOn 29 = .ok (.if_icmp .ne 16, 3) := by decide +kernel
theorem dX3_moveOn_32 : decode cX3_moveOn 32 = .ok (.aload_n 0, 1) := by decide +kernel
theorem dX3_moveOn_33 : decode cX3_moveOn 33 = .ok (.aload_n 1, 1) := by decide +kernel
theorem dX3_moveOn_34 : decode cX3_moveOn 34 = .ok (.invokevirtual 199, 3) := by decide +kernel
theorem dX3_moveOn_37 : decode cX3_moveOn 37 = .ok (.ifCond .ne 8, 3) := by decide +kernel
theorem dX3_moveOn_40 : decode cX3_moveOn 40 = .ok (.aload_n 0, 1) := by decide +kernel
theorem dX3_moveOn_41 : decode cX3_moveOn 41 = .ok (.aload_n 1, 1) := by decide +kernel
theorem dX3_moveOn_42 : decode cX3_moveOn 42 = .ok (.invokevirtual 260, 3) := by decide +kernel
theorem dX3_moveOn_45 : decode cX3_moveOn 45 = .ok (.return_, 1) := by decide +kernel
theorem dX3_leave_0 : decode cX3_leave 0 = .ok (.aload_n 1, 1) := by decide +kernel
theorem dX3_leave_1 : decode cX3_leave 1 = .ok (.getfield 193, 3) := by decide +kernel
theorem dX3_leave_4 : decode cX3_leave 4 = .ok (.ifCond .lt 39, 3) := by decide +kernel
theorem dX3_leave_7 : decode cX3_leave 7 = .ok (.aload_n 1, 1) := by decide +kernel
theorem dX3_leave_8 : decode cX3_leave 8 = .ok (.getfield 193, 3) := by decide +kernel
theorem dX3_leave_11 : decode cX3_leave 11 = .ok (.aload_n 0, 1) := by decide +kernel
theorem dX3_leave_12 : decode cX3_leave 12 = .ok (.getfield 10, 3) := by decide +kernel
theorem dX3_leave_15 : decode cX3_leave 15 = .ok (.invokeinterface 46 1, 5) := by decide +kernel
theorem dX3_leave_20 : decode cX3_leave 20 = .ok (.if_icmp .ge 23, 3) := by decide +kernel
theorem dX3_leave_23 : decode cX3_leave 23 = .ok (.aload_n 0, 1) := by decide +kernel
theorem dX3_leave_24 : decode cX3_leave 24 = .ok (.getfield 10, 3) := by decide +kernel
theorem dX3_leave_27 : decode cX3_leave 27 = .ok (.aload_n 1, 1) := by decide +kernel
theorem dX3_leave_28 : decode cX3_leave 28 = .ok (.getfield 193, 3) := by decide +kernel
theorem dX3_leave_31 : decode cX3_leave 31 = .ok (.invokeinterface 71 2, 5) := by decide +kernel
theorem dX3_leave_36 : decode cX3_leave 36 = .ok (.checkcast 63, 3) := by decide +kernel
theorem dX3_leave_39 : decode cX3_leave 39 = .ok (.aload_n 1, 1) := by decide +kernel
theorem dX3_leave_40 : decode cX3_leave 40 = .ok (.invokevirtual 263, 3) := by decide +kernel
theorem dX3_leave_43 : decode cX3_leave 43 = .ok (.aload_n 1, 1) := by decide +kernel
theorem dX3_leave_44 : decode cX3_leave 44 = .ok (.getfield 144, 3) := by decide +kernel
theorem dX3_leave_47 : decode cX3_leave 47 = .ok (.ifCond .eq 13, 3) := by decide +kernel
theorem dX3_leave_50 : decode cX3_leave 50 = .ok (.aload_n 1, 1) := by decide +kernel
theorem dX3_leave_51 : decode cX3_leave 51 = .ok (.dup, 1) := by decide +kernel
theorem dX3_leave_52 : decode cX3_leave 52 = .ok (.getfield 193, 3) := by decide +kernel
theorem dX3_leave_55 : decode cX3_leave 55 = .ok (.iconst 1, 1) := by decide +kernel
theorem dX3_leave_56 : decode cX3_leave 56 = .ok (.iadd, 1) := by decide +kernel
theorem dX3_leave_57 : decode cX3_leave 57 = .ok (.putfield 193, 3) := by decide +kernel
theorem dX3_leave_60 : decode cX3_leave 60 = .ok (.aload_n 1, 1) := by decide +kernel
theorem dX3_leave_61 : decode cX3_leave 61 = .ok (.iconst 2, 1) := by decide +kernel
theorem dX3_leave_62 : decode cX3_leave 62 = .ok (.putfield 125, 3) := by decide +kernel
theorem dX3_leave_65 : decode cX3_leave 65 = .ok (.aload_n 0, 1) := by decide +kernel
theorem dX3_leave_66 : decode cX3_leave 66 = .ok (.aload_n 1, 1) := by decide +kernel
theorem dX3_leave_67 : decode cX3_leave 67 = .ok (.invokevirtual 150, 3) := by decide +kernel
theorem dX3_leave_70 : decode cX3_leave 70 = .ok (.return_, 1) := by decide +kernel
theorem dX3_stopAtEnd_0 : decode cX3_stopAtEnd 0 = .ok (.aload_n 1, 1) := by decide +kernel
theorem dX3_stopAtEnd_1 : decode cX3_stopAtEnd 1 = .ok (.getfield 144, 3) := by decide +kernel
theorem dX3_stopAtEnd_4 : decode cX3_stopAtEnd 4 = .ok (.ifCond .eq 32, 3) := by decide +kernel
theorem dX3_stopAtEnd_7 : decode cX3_stopAtEnd 7 = .ok (.aload_n 1, 1) := by decide +kernel
theorem dX3_stopAtEnd_8 : decode cX3_stopAtEnd 8 = .ok (.getfield 193, 3) := by decide +kernel
theorem dX3_stopAtEnd_11 : decode cX3_stopAtEnd 11 = .ok (.aload_n 0, 1) := by decide +kernel
theorem dX3_stopAtEnd_12 : decode cX3_stopAtEnd 12 = .ok (.getfield 10, 3) := by decide +kernel
theorem dX3_stopAtEnd_15 : decode cX3_stopAtEnd 15 = .ok (.invokeinterface 46 1, 5) := by decide +kernel
theorem dX3_stopAtEnd_20 : decode cX3_stopAtEnd 20 = .ok (.if_icmp .ne 16, 3) := by decide +kernel
theorem dX3_stopAtEnd_23 : decode cX3_stopAtEnd 23 = .ok (.aload_n 1, 1) := by decide +kernel
theorem dX3_stopAtEnd_24 : decode cX3_stopAtEnd 24 = .ok (.iconst 3, 1) := by decide +kernel
theorem dX3_stopAtEnd_25 : decode cX3_stopAtEnd 25 = .ok (.putfield 125, 3) := by decide +kernel
theorem dX3_stopAtEnd_28 : decode cX3_stopAtEnd 28 = .ok (.aload_n 0, 1) := by decide +kernel
theorem dX3_stopAtEnd_29 : decode cX3_stopAtEnd 29 = .ok (.aload_n 1, 1) := by decide +kernel
theorem dX3_stopAtEnd_30 : decode cX3_stopAtEnd 30 = .ok (.invokevirtual 266, 3) := by decide +kernel
theorem dX3_stopAtEnd_33 : decode cX3_stopAtEnd 33 = .ok (.goto 27, 3) := by decide +kernel
theorem dX3_stopAtEnd_36 : decode cX3_stopAtEnd 36 = .ok (.aload_n 1, 1) := by decide +kernel
theorem dX3_stopAtEnd_37 : decode cX3_stopAtEnd 37 = .ok (.getfield 144, 3) := by decide +kernel
theorem dX3_stopAtEnd_40 : decode cX3_stopAtEnd 40 = .ok (.ifCond .ne 20, 3) := by decide +kernel
theorem dX3_stopAtEnd_43 : decode cX3_stopAtEnd 43 = .ok (.aload_n 1, 1) := by decide +kernel
theorem dX3_stopAtEnd_44 : decode cX3_stopAtEnd 44 = .ok (.getfield 193, 3) := by decide +kernel
theorem dX3_stopAtEnd_47 : decode cX3_stopAtEnd 47 = .ok (.ifCond .ne 13, 3) := by decide +kernel
theorem dX3_stopAtEnd_50 : decode cX3_stopAtEnd 50 = .ok (.aload_n 1, 1) := by decide +kernel
theorem dX3_stopAtEnd_51 : decode cX3_stopAtEnd 51 = .ok (.iconst 0, 1) := by decide +kernel
theorem dX3_stopAtEnd_52 : decode cX3_stopAtEnd 52 = .ok (.putfield 125, 3) := by decide +kernel
theorem dX3_stopAtEnd_55 : decode cX3_stopAtEnd 55 = .ok (.aload_n 0, 1) := by decide +kernel
theorem dX3_stopAtEnd_56 : decode cX3_stopAtEnd 56 = .ok (.aload_n 1, 1) := by decide +kernel
theorem dX3_stopAtEnd_57 : decode cX3_stopAtEnd 57 = .ok (.invokevirtual 266, 3) := by decide +kernel
theorem dX3_stopAtEnd_60 : decode cX3_stopAtEnd 60 = .ok (.return_, 1) := by decide +kernel
theorem dX3_comeOnto_0 : decode cX3_comeOnto 0 = .ok (.aload_n 0, 1) := by decide +kernel
theorem dX3_comeOnto_1 : decode cX3_comeOnto 1 = .ok (.aload_n 1, 1) := by decide +kernel
theorem dX3_comeOnto_2 : decode cX3_comeOnto 2 = .ok (.invokevirtual 269, 3) := by decide +kernel
theorem dX3_comeOnto_5 : decode cX3_comeOnto 5 = .ok (.astore_n 2, 1) := by decide +kernel
theorem dX3_comeOnto_6 : decode cX3_comeOnto 6 = .ok (.aload_n 2, 1) := by decide +kernel
theorem dX3_comeOnto_7 : decode cX3_comeOnto 7 = .ok (.ifnonnull 4, 3) := by decide +kernel
theorem dX3_comeOnto_10 : decode cX3_comeOnto 10 = .ok (.return_, 1) := by decide +kernel
theorem dX3_comeOnto_11 : decode cX3_comeOnto 11 = .ok (.aload_n 1, 1) := by decide +kernel
theorem dX3_comeOnto_12 : decode cX3_comeOnto 12 = .ok (.getfield 144, 3) := by decide +kernel
theorem dX3_comeOnto_15 : decode cX3_comeOnto 15 = .ok (.ifCond .ne 13, 3) := by decide +kernel
theorem dX3_comeOnto_18 : decode cX3_comeOnto 18 = .ok (.aload_n 1, 1) := by decide +kernel
theorem dX3_comeOnto_19 : decode cX3_comeOnto 19 = .ok (.dup, 1) := by decide +kernel
theorem dX3_comeOnto_20 : decode cX3_comeOnto 20 = .ok (.getfield 193, 3) := by decide +kernel
theorem dX3_comeOnto_23 : decode cX3_comeOnto 23 = .ok (.iconst 1, 1) := by decide +kernel
theorem dX3_comeOnto_24 : decode cX3_comeOnto 24 = .ok (.isub, 1) := by decide +kernel
theorem dX3_comeOnto_25 : decode cX3_comeOnto 25 = .ok (.putfield 193, 3) := by decide +kernel
theorem dX3_comeOnto_28 : decode cX3_comeOnto 28 = .ok (.aload_n 2, 1) := by decide +kernel
theorem dX3_comeOnto_29 : decode cX3_comeOnto 29 = .ok (.aload_n 1, 1) := by decide +kernel
theorem dX3_comeOnto_30 : decode cX3_comeOnto 30 = .ok (.getfield 144, 3) := by decide +kernel
theorem dX3_comeOnto_33 : decode cX3_comeOnto 33 = .ok (.aload_n 0, 1) := by decide +kernel
theorem dX3_comeOnto_34 : decode cX3_comeOnto 34 = .ok (.getfield 32, 3) := by decide +kernel
theorem dX3_comeOnto_37 : decode cX3_comeOnto 37 = .ok (.invokevirtual 273, 3) := by decide +kernel
theorem dX3_comeOnto_40 : decode cX3_comeOnto 40 = .ok (.aload_n 2, 1) := by decide +kernel
theorem dX3_comeOnto_41 : decode cX3_comeOnto 41 = .ok (.getfield 277, 3) := by decide +kernel
theorem dX3_comeOnto_44 : decode cX3_comeOnto 44 = .ok (.aload_n 1, 1) := by decide +kernel
theorem dX3_comeOnto_45 : decode cX3_comeOnto 45 = .ok (.invokevirtual 139, 3) := by decide +kernel
theorem dX3_comeOnto_48 : decode cX3_comeOnto 48 = .ok (.iadd, 1) := by decide +kernel
theorem dX3_comeOnto_49 : decode cX3_comeOnto 49 = .ok (.aload_n 2, 1) := by decide +kernel
theorem dX3_comeOnto_50 : decode cX3_comeOnto 50 = .ok (.iconst 0, 1) := by decide +kernel
theorem dX3_comeOnto_51 : decode cX3_comeOnto 51 = .ok (.invokevirtual 183, 3) := by decide +kernel
theorem dX3_comeOnto_54 : decode cX3_comeOnto 54 = .ok (.if_icmp .le 15, 3) := by decide +kernel
theorem dX3_comeOnto_57 : decode cX3_comeOnto 57 = .ok (.aload_n 1, 1) := by decide +kernel
theorem dX3_comeOnto_58 : decode cX3_comeOnto 58 = .ok (.iconst 4, 1) := by decide +kernel
theorem dX3_comeOnto_59 : decode cX3_comeOnto 59 = .ok (.putfield 125, 3) := by decide +kernel
theorem dX3_comeOnto_62 : decode cX3_comeOnto 62 = .ok (.aload_n 2, 1) := by decide +kernel
theorem dX3_comeOnto_63 : decode cX3_comeOnto 63 = .ok (.invokevirtual 280, 3) := by decide +kernel
theorem dX3_comeOnto_66 : decode cX3_comeOnto 66 = .ok (.goto 27, 3) := by decide +kernel
theorem dX3_comeOnto_69 : decode cX3_comeOnto 69 = .ok (.aload_n 1, 1) := by decide +kernel
theorem dX3_comeOnto_70 : decode cX3_comeOnto 70 = .ok (.iconst 1, 1) := by decide +kernel
theorem dX3_comeOnto_71 : decode cX3_comeOnto 71 = .ok (.putfield 125, 3) := by decide +kernel
theorem dX3_comeOnto_74 : decode cX3_comeOnto 74 = .ok (.aload_n 1, 1) := by decide +kernel
theorem dX3_comeOnto_75 : decode cX3_comeOnto 75 = .ok (.aload_n 0, 1) := by decide +kernel
theorem dX3_comeOnto_76 : decode cX3_comeOnto 76 = .ok (.getfield 32, 3) := by decide +kernel
theorem dX3_comeOnto_79 : decode cX3_comeOnto 79 = .ok (.aload_n 2, 1) := by decide +kernel
theorem dX3_comeOnto_80 : decode cX3_comeOnto 80 = .ok (.aload_n 1, 1) := by decide +kernel
theorem dX3_comeOnto_81 : decode cX3_comeOnto 81 = .ok (.invokevirtual 206, 3) := by decide +kernel
theorem dX3_comeOnto_84 : decode cX3_comeOnto 84 = .ok (.iadd, 1) := by decide +kernel
theorem dX3_comeOnto_85 : decode cX3_comeOnto 85 = .ok (.putfield 196, 3) := by decide +kernel
theorem dX3_comeOnto_88 : decode cX3_comeOnto 88 = .ok (.aload_n 2, 1) := by decide +kernel
theorem dX3_comeOnto_89 : decode cX3_comeOnto 89 = .ok (.aload_n 1, 1) := by decide +kernel
theorem dX3_comeOnto_90 : decode cX3_comeOnto 90 = .ok (.invokevirtual 283, 3) := by decide +kernel
theorem dX3_comeOnto_93 : decode cX3_comeOnto 93 = .ok (.return_, 1) := by decide +kernel
theorem dX3_pieceAhead_0 : decode cX3_pieceAhead 0 = .ok (.aload_n 1, 1) := by decide +kernel
theorem dX3_pieceAhead_1 : decode cX3_pieceAhead 1 = .ok (.getfield 144, 3) := by decide +kernel
theorem dX3_pieceAhead_4 : decode cX3_pieceAhead 4 = .ok (.ifCond .eq 10, 3) := by decide +kernel
theorem dX3_pieceAhead_7 : decode cX3_pieceAhead 7 = .ok (.aload_n 1, 1) := by decide +kernel
theorem dX3_pieceAhead_8 : decode cX3_pieceAhead 8 = .ok (.getfield 193, 3) := by decide +kernel
theorem dX3_pieceAhead_11 : decode cX3_pieceAhead 11 = .ok (.goto 9, 3) := by decide +kernel
theorem dX3_pieceAhead_14 : decode cX3_pieceAhead 14 = .ok (.aload_n 1, 1) := by decide +kernel
theorem dX3_pieceAhead_15 : decode cX3_pieceAhead 15 = .ok (.getfield 193, 3) := by decide +kernel
theorem dX3_pieceAhead_18 : decode cX3_pieceAhead 18 = .ok (.iconst 1, 1) := by decide +kernel
theorem dX3_pieceAhead_19 : decode cX3_pieceAhead 19 = .ok (.isub, 1) := by decide +kernel
theorem dX3_pieceAhead_20 : decode cX3_pieceAhead 20 = .ok (.istore_n 2, 1) := by decide +kernel
theorem dX3_pieceAhead_21 : decode cX3_pieceAhead 21 = .ok (.iload_n 2, 1) := by decide +kernel
theorem dX3_pieceAhead_22 : decode cX3_pieceAhead 22 = .ok (.ifCond .lt 16, 3) := by decide +kernel
theorem dX3_pieceAhead_25 : decode cX3_pieceAhead 25 = .ok (.iload_n 2, 1) := by decide +kernel
theorem dX3_pieceAhead_26 : decode cX3_pieceAhead 26 = .ok (.aload_n 0, 1) := by decide +kernel
theorem dX3_pieceAhead_27 : decode cX3_pieceAhead 27 = .ok (.getfield 10, 3) := by decide +kernel
theorem dX3_pieceAhead_30 : decode cX3_pieceAhead 30 = .ok (.invokeinterface 46 1, 5) := by decide +kernel
theorem dX3_pieceAhead_35 : decode cX3_pieceAhead 35 = .ok (.if_icmp .lt 7, 3) := by decide +kernel
theorem dX3_pieceAhead_38 : decode cX3_pieceAhead 38 = .ok (.aconst_null, 1) := by decide +kernel
theorem dX3_pieceAhead_39 : decode cX3_pieceAhead 39 = .ok (.goto 16, 3) := by decide +kernel
theorem dX3_pieceAhead_42 : decode cX3_pieceAhead 42 = .ok (.aload_n 0, 1) := by decide +kernel
theorem dX3_pieceAhead_43 : decode cX3_pieceAhead 43 = .ok (.getfield 10, 3) := by decide +kernel
theorem dX3_pieceAhead_46 : decode cX3_pieceAhead 46 = .ok (.iload_n 2, 1) := by decide +kernel
theorem dX3_pieceAhead_47 : decode cX3_pieceAhead 47 = .ok (.invokeinterface 71 2, 5) := by decide +kernel
theorem dX3_pieceAhead_52 : decode cX3_pieceAhead 52 = .ok (.checkcast 63, 3) := by decide +kernel
theorem dX3_pieceAhead_55 : decode cX3_pieceAhead 55 = .ok (.areturn, 1) := by decide +kernel
theorem dX3_whatIsAgainst_0 : decode cX3_whatIsAgainst 0 = .ok (.aload_n 0, 1) := by decide +kernel
theorem dX3_whatIsAgainst_1 : decode cX3_whatIsAgainst 1 = .ok (.aload_n 1, 1) := by decide +kernel
theorem dX3_whatIsAgainst_2 : decode cX3_whatIsAgainst 2 = .ok (.invokevirtual 269, 3) := by decide +kernel
theorem dX3_whatIsAgainst_5 : decode cX3_whatIsAgainst 5 = .ok (.astore_n 2, 1) := by decide +kernel
theorem dX3_whatIsAgainst_6 : decode cX3_whatIsAgainst 6 = .ok (.aload_n 2, 1) := by decide +kernel
theorem dX3_whatIsAgainst_7 : decode cX3_whatIsAgainst 7 = .ok (.ifnull 10, 3) := by decide +kernel
theorem dX3_whatIsAgainst_10 : decode cX3_whatIsAgainst 10 = .ok (.aload_n 2, 1) := by decide +kernel
theorem dX3_whatIsAgainst_11 : decode cX3_whatIsAgainst 11 = .ok (.getfield 101, 3) := by decide +kernel
theorem dX3_whatIsAgainst_14 : decode cX3_whatIsAgainst 14 = .ok (.ifCond .ne 5, 3) := by decide +kernel
theorem dX3_whatIsAgainst_17 : decode cX3_whatIsAgainst 17 = .ok (.iconst 1, 1) := by decide +kernel
theorem dX3_whatIsAgainst_18 : decode cX3_whatIsAgainst 18 = .ok (.ireturn, 1) := by decide +kernel
theorem dX3_whatIsAgainst_19 : decode cX3_whatIsAgainst 19 = .ok (.aload_n 0, 1) := by decide +kernel
theorem dX3_whatIsAgainst_20 : decode cX3_whatIsAgainst 20 = .ok (.getfield 32, 3) := by decide +kernel
theorem dX3_whatIsAgainst_23 : decode cX3_whatIsAgainst 23 = .ok (.sipush 1440, 3) := by decide +kernel
theorem dX3_whatIsAgainst_26 : decode cX3_whatIsAgainst 26 = .ok (.irem, 1) := by decide +kernel
theorem dX3_whatIsAgainst_27 : decode cX3_whatIsAgainst 27 = .ok (.istore_n 3, 1) := by decide +kernel
theorem dX3_whatIsAgainst_28 : decode cX3_whatIsAgainst 28 = .ok (.aload_n 2, 1) := by decide +kernel
theorem dX3_whatIsAgainst_29 : decode cX3_whatIsAgainst 29 = .ok (.invokevirtual 82, 3) := by decide +kernel
theorem dX3_whatIsAgainst_32 : decode cX3_whatIsAgainst 32 = .ok (.ifCond .eq 26, 3) := by decide +kernel
theorem dX3_whatIsAgainst_35 : decode cX3_whatIsAgainst 35 = .ok (.aload_n 0, 1) := by decide +kernel
theorem dX3_whatIsAgainst_36 : decode cX3_whatIsAgainst 36 = .ok (.getfield 36, 3) := by decide +kernel
theorem dX3_whatIsAgainst_39 : decode cX3_whatIsAgainst 39 = .ok (.ifCond .ge 19, 3) := by decide +kernel
theorem dX3_whatIsAgainst_42 : decode cX3_whatIsAgainst 42 = .ok (.iload_n 3, 1) := by decide +kernel
theorem dX3_whatIsAgainst_43 : decode cX3_whatIsAgainst 43 = .ok (.sipush 480, 3) := by decide +kernel
theorem dX3_whatIsAgainst_46 : decode cX3_whatIsAgainst 46 = .ok (.if_icmp .lt 12, 3) := by decide +kernel
theorem dX3_whatIsAgainst_49 : decode cX3_whatIsAgainst 49 = .ok (.iload_n 3, 1) := by decide +kernel
theorem dX3_whatIsAgainst_50 : decode cX3_whatIsAgainst 50 = .ok (.sipush 1199, 3) := by decide +kernel
theorem dX3_whatIsAgainst_53 : decode cX3_whatIsAgainst 53 = .ok (.if_icmp .gt 5, 3) := by decide +kernel
theorem dX3_whatIsAgainst_56 : decode cX3_whatIsAgainst 56 = .ok (.iconst 2, 1) := by decide +kernel
theorem dX3_whatIsAgainst_57 : decode cX3_whatIsAgainst 57 = .ok (.ireturn, 1) := by decide +kernel
theorem dX3_whatIsAgainst_58 : decode cX3_whatIsAgainst 58 = .ok (.aload_n 1, 1) := by decide +kernel
theorem dX3_whatIsAgainst_59 : decode cX3_whatIsAgainst 59 = .ok (.invokevirtual 139, 3) := by decide +kernel
theorem dX3_whatIsAgainst_62 : decode cX3_whatIsAgainst 62 = .ok (.istore 4, 2) := by decide +kernel
theorem dX3_whatIsAgainst_64 : decode cX3_whatIsAgainst 64 = .ok (.aload_n 2, 1) := by decide +kernel
theorem dX3_whatIsAgainst_65 : decode cX3_whatIsAgainst 65 = .ok (.getfield 101, 3) := by decide +kernel
theorem dX3_whatIsAgainst_68 : decode cX3_whatIsAgainst 68 = .ok (.iconst 1, 1) := by decide +kernel
theorem dX3_whatIsAgainst_69 : decode cX3_whatIsAgainst 69 = .ok (.if_icmp .ne 13, 3) := by decide +kernel
theorem dX3_whatIsAgainst_72 : decode cX3_whatIsAgainst 72 = .ok (.iload 4, 2) := by decide +kernel
theorem dX3_whatIsAgainst_74 : decode cX3_whatIsAgainst 74 = .ok (.sipush 5000, 3) := by decide +kernel
theorem dX3_whatIsAgainst_77 : decode cX3_whatIsAgainst 77 = .ok (.if_icmp .le 5, 3) := by decide +kernel
theorem dX3_whatIsAgainst_80 : decode cX3_whatIsAgainst 80 = .ok (.iconst 3, 1) := by decide +kernel
theorem dX3_whatIsAgainst_81 : decode cX3_whatIsAgainst 81 = .ok (.ireturn, 1) := by decide +kernel
theorem dX3_whatIsAgainst_82 : decode cX3_whatIsAgainst 82 = .ok (.aload_n 0, 1) := by decide +kernel
theorem dX3_whatIsAgainst_83 : decode cX3_whatIsAgainst 83 = .ok (.getfield 32, 3) := by decide +kernel
theorem dX3_whatIsAgainst_86 : decode cX3_whatIsAgainst 86 = .ok (.aload_n 2, 1) := by decide +kernel
theorem dX3_whatIsAgainst_87 : decode cX3_whatIsAgainst 87 = .ok (.aload_n 1, 1) := by decide +kernel
theorem dX3_whatIsAgainst_88 : decode cX3_whatIsAgainst 88 = .ok (.getfield 144, 3) := by decide +kernel
theorem dX3_whatIsAgainst_91 : decode cX3_whatIsAgainst 91 = .ok (.invokevirtual 286, 3) := by decide +kernel
theorem dX3_whatIsAgainst_94 : decode cX3_whatIsAgainst 94 = .ok (.isub, 1) := by decide +kernel
theorem dX3_whatIsAgainst_95 : decode cX3_whatIsAgainst 95 = .ok (.aload_n 0, 1) := by decide +kernel
theorem dX3_whatIsAgainst_96 : decode cX3_whatIsAgainst 96 = .ok (.getfield 39, 3) := by decide +kernel
theorem dX3_whatIsAgainst_99 : decode cX3_whatIsAgainst 99 = .ok (.if_icmp .ge 5, 3) := by decide +kernel
theorem dX3_whatIsAgainst_102 : decode cX3_whatIsAgainst 102 = .ok (.iconst 4, 1) := by decide +kernel
theorem dX3_whatIsAgainst_103 : decode cX3_whatIsAgainst 103 = .ok (.ireturn, 1) := by decide +kernel
theorem dX3_whatIsAgainst_104 : decode cX3_whatIsAgainst 104 = .ok (.aload_n 2, 1) := by decide +kernel
theorem dX3_whatIsAgainst_105 : decode cX3_whatIsAgainst 105 = .ok (.getfield 289, 3) := by decide +kernel
theorem dX3_whatIsAgainst_108 : decode cX3_whatIsAgainst 108 = .ok (.ifCond .eq 24, 3) := by decide +kernel
theorem dX3_whatIsAgainst_111 : decode cX3_whatIsAgainst 111 = .ok (.aload_n 2, 1) := by decide +kernel
theorem dX3_whatIsAgainst_112 : decode cX3_whatIsAgainst 112 = .ok (.aload_n 1, 1) := by decide +kernel
theorem dX3_whatIsAgainst_113 : decode cX3_whatIsAgainst 113 = .ok (.getfield 144, 3) := by decide +kernel
theorem dX3_whatIsAgainst_116 : decode cX3_whatIsAgainst 116 = .ok (.ifCond .ne 7, 3) := by decide +kernel
theorem dX3_whatIsAgainst_119 : decode cX3_whatIsAgainst 119 = .ok (.iconst 1, 1) := by decide +kernel
theorem dX3_whatIsAgainst_120 : decode cX3_whatIsAgainst 120 = .ok (.goto 4, 3) := by decide +kernel
theorem dX3_whatIsAgainst_123 : decode cX3_whatIsAgainst 123 = .ok (.iconst 0, 1) := by decide +kernel
theorem dX3_whatIsAgainst_124 : decode cX3_whatIsAgainst 124 = .ok (.invokevirtual 292, 3) := by decide +kernel
theorem dX3_whatIsAgainst_127 : decode cX3_whatIsAgainst 127 = .ok (.ifCond .le 5, 3) := by decide +kernel
theorem dX3_whatIsAgainst_130 : decode cX3_whatIsAgainst 130 = .ok (.iconst 5, 1) := by decide +kernel
theorem dX3_whatIsAgainst_131 : decode cX3_whatIsAgainst 131 = .ok (.ireturn, 1) := by decide +kernel
theorem dX3_whatIsAgainst_132 : decode cX3_whatIsAgainst 132 = .ok (.aload_n 2, 1) := by decide +kernel
theorem dX3_whatIsAgainst_133 : decode cX3_whatIsAgainst 133 = .ok (.getfield 277, 3) := by decide +kernel
theorem dX3_whatIsAgainst_136 : decode cX3_whatIsAgainst 136 = .ok (.iload 4, 2) := by decide +kernel
theorem dX3_whatIsAgainst_138 : decode cX3_whatIsAgainst 138 = .ok (.iadd, 1) := by decide +kernel
theorem dX3_whatIsAgainst_139 : decode cX3_whatIsAgainst 139 = .ok (.aload_n 2, 1) := by decide +kernel
theorem dX3_whatIsAgainst_140 : decode cX3_whatIsAgainst 140 = .ok (.iconst 1, 1) := by decide +kernel
theorem dX3_whatIsAgainst_141 : decode cX3_whatIsAgainst 141 = .ok (.invokevirtual 183, 3) := by decide +kernel
theorem dX3_whatIsAgainst_144 : decode cX3_whatIsAgainst 144 = .ok (.if_icmp .le 8, 3) := by decide +kernel
theorem dX3_whatIsAgainst_147 : decode cX3_whatIsAgainst 147 = .ok (.bipush 6, 2) := by decide +kernel
theorem dX3_whatIsAgainst_149 : decode cX3_whatIsAgainst 149 = .ok (.goto 4, 3) := by decide +kernel
theorem dX3_whatIsAgainst_152 : decode cX3_whatIsAgainst 152 = .ok (.iconst 0, 1) := by decide +kernel
theorem dX3_whatIsAgainst_153 : decode cX3_whatIsAgainst 153 = .ok (.ireturn, 1) := by decide +kernel
end
section
theorem dX4_init_0 : decode cX4_init 0 = .ok (.aload_n 0, 1) := by decide +kernel
theorem dX4_init_1 : decode cX4_init 1 = .ok (.invokespecial 1, 3) := by decide +kernel
theorem dX4_init_4 : decode cX4_init 4 = .ok (.aload_n 0, 1) := by decide +kernel
theorem dX4_init_5 : decode cX4_init 5 = .ok (.iconst 5, 1) := by decide +kernel
theorem dX4_init_6 : decode cX4_init 6 = .ok (.putfield 7, 3) := by decide +kernel
theorem dX4_init_9 : decode cX4_init 9 = .ok (.aload_n 0, 1) := by decide +kernel
theorem dX4_init_10 : decode cX4_init 10 = .ok (.bipush 10, 2) := by decide +kernel
theorem dX4_init_12 : decode cX4_init 12 = .ok (.newarray .int, 2) := by decide +kernel
theorem dX4_init_14 : decode cX4_init 14 = .ok (.putfield 13, 3) := by decide +kernel
theorem dX4_init_17 : decode cX4_init 17 = .ok (.aload_n 0, 1) := by decide +kernel
theorem dX4_init_18 : decode cX4_init 18 = .ok (.bipush 10, 2) := by decide +kernel
theorem dX4_init_20 : decode cX4_init 20 = .ok (.newarray .int, 2) := by decide +kernel
theorem dX4_init_22 : decode cX4_init 22 = .ok (.putfield 17, 3) := by decide +kernel
theorem dX4_init_25 : decode cX4_init 25 = .ok (.aload_n 0, 1) := by decide +kernel
theorem dX4_init_26 : decode cX4_init 26 = .ok (.bipush 10, 2) := by decide +kernel
theorem dX4_init_28 : decode cX4_init 28 = .ok (.newarray .int, 2) := by decide +kernel
theorem dX4_init_30 : decode cX4_init 30 = .ok (.putfield 20, 3) := by decide +kernel
theorem dX4_init_33 : decode cX4_init 33 = .ok (.aload_n 0, 1) := by decide +kernel
theorem dX4_init_34 : decode cX4_init 34 = .ok (.bipush 10, 2) := by decide +kernel
theorem dX4_init_36 : decode cX4_init 36 = .ok (.newarray .int, 2) := by decide +kernel
theorem dX4_init_38 : decode cX4_init 38 = .ok (.putfield 23, 3) := by decide +kernel
theorem dX4_init_41 : decode cX4_init 41 = .ok (.aload_n 0, 1) := by decide +kernel
theorem dX4_init_42 : decode cX4_init 42 = .ok (.bipush 10, 2) := by decide +kernel
theorem dX4_init_44 : decode cX4_init 44 = .ok (.newarray .int, 2) := by decide +kernel
theorem dX4_init_46 : decode cX4_init 46 = .ok (.putfield 26, 3) := by decide +kernel
theorem dX4_init_49 : decode cX4_init 49 = .ok (.aload_n 0, 1) := by decide +kernel
theorem dX4_init_50 : decode cX4_init 50 = .ok (.bipush 10, 2) := by decide +kernel
theorem dX4_init_52 : decode cX4_init 52 = .ok (.newarray .int, 2) := by decide +kernel
theorem dX4_init_54 : decode cX4_init 54 = .ok (.putfield 29, 3) := by decide +kernel
theorem dX4_init_57 : decode cX4_init 57 = .ok (.aload_n 0, 1) := by decide +kernel
theorem dX4_init_58 : decode cX4_init 58 = .ok (.bipush 10, 2) := by decide +kernel
theorem dX4_init_60 : decode cX4_init 60 = .ok (.newarray .int, 2) := by decide +kernel
theorem dX4_init_62 : decode cX4_init 62 = .ok (.putfield 32, 3) := by decide +kernel
theorem dX4_init_65 : decode cX4_init 65 = .ok (.aload_n 0, 1) := by decide +kernel
theorem dX4_init_66 : decode cX4_init 66 = .ok (.bipush 10, 2) := by decide +kernel
theorem dX4_init_68 : decode cX4_init 68 = .ok (.newarray .int, 2) := by decide +kernel
theorem dX4_init_70 : decode cX4_init 70 = .ok (.putfield 35, 3) := by decide +kernel
theorem dX4_init_73 : decode cX4_init 73 = .ok (.aload_n 0, 1) := by decide +kernel
theorem dX4_init_74 : decode cX4_init 74 = .ok (.bipush 10, 2) := by decide +kernel
theorem dX4_init_76 : decode cX4_init 76 = .ok (.newarray .int, 2) := by decide +kernel
theorem dX4_init_78 : decode cX4_init 78 = .ok (.putfield 38, 3) := by decide +kernel
theorem dX4_init_81 : decode cX4_init 81 = .ok (.aload_n 0, 1) := by decide +kernel
theorem dX4_init_82 : decode cX4_init 82 = .ok (.bipush 10, 2) := by decide +kernel
theorem dX4_init_84 : decode cX4_init 84 = .ok (.newarray .int, 2) := by decide +kernel
theorem dX4_init_86 : decode cX4_init 86 = .ok (.putfield 41, 3) := by decide +kernel
theorem dX4_init_89 : decode cX4_init 89 = .ok (.aload_n 0, 1) := by decide +kernel
theorem dX4_init_90 : decode cX4_init 90 = .ok (.bipush 10, 2) := by decide +kernel
theorem dX4_init_92 : decode cX4_init 92 = .ok (.newarray .double, 2) := by decide +kernel
theorem dX4_init_94 : decode cX4_init 94 = .ok (.putfield 44, 3) := by decide +kernel
theorem dX4_init_97 : decode cX4_init 97 = .ok (.aload_n 0, 1) := by decide +kernel
theorem dX4_init_98 : decode cX4_init 98 = .ok (.bipush 20, 2) := by decide +kernel
theorem dX4_init_100 : decode cX4_init 100 = .ok (.newarray .int, 2) := by decide +kernel
theorem dX4_init_102 : decode cX4_init 102 = .ok (.putfield 48, 3) := by decide +kernel
theorem dX4_init_105 : decode cX4_init 105 = .ok (.aload_n 0, 1) := by decide +kernel
theorem dX4_init_106 : decode cX4_init 106 = .ok (.bipush 16, 2) := by decide +kernel
theorem dX4_init_108 : decode cX4_init 108 = .ok (.newarray .int, 2) := by decide +kernel
theorem dX4_init_110 : decode cX4_init 110 = .ok (.putfield 51, 3) := by decide +kernel
theorem dX4_init_113 : decode cX4_init 113 = .ok (.aload_n 0, 1) := by decide +kernel
theorem dX4_init_114 : decode cX4_init 114 = .ok (.bipush 16, 2) := by decide +kernel
theorem dX4_init_116 : decode cX4_init 116 = .ok (.newarray .int, 2) := by decide +kernel
theorem dX4_init_118 : decode cX4_init 118 = .ok (.putfield 54, 3) := by decide +kernel
theorem dX4_init_121 : decode cX4_init 121 = .ok (.aload_n 0, 1) := by decide +kernel
theorem dX4_init_122 : decode cX4_init 122 = .ok (.bipush 16, 2) := by decide +kernel
theorem dX4_init_124 : decode cX4_init 124 = .ok (.newarray .int, 2) := by decide +kernel
theorem dX4_init_126 : decode cX4_init 126 = .ok (.putfield 57, 3) := by decide +kernel
theorem dX4_init_129 : decode cX4_init 129 = .ok (.aload_n 0, 1) := by decide +kernel
theorem dX4_init_130 : decode cX4_init 130 = .ok (.bipush 16, 2) := by decide +kernel
theorem dX4_init_132 : decode cX4_init 132 = .ok (.newarray .int, 2) := by decide +kernel
theorem dX4_init_134 : decode cX4_init 134 = .ok (.putfield 60, 3) := by decide +kernel
theorem dX4_init_137 : decode cX4_init 137 = .ok (.aload_n 0, 1) := by decide +kernel
theorem dX4_init_138 : decode cX4_init 138 = .ok (.bipush 16, 2) := by decide +kernel
theorem dX4_init_140 : decode cX4_init 140 = .ok (.newarray .int, 2) := by decide +kernel
theorem dX4_init_142 : decode cX4_init 142 = .ok (.putfield 63, 3) := by decide +kernel
theorem dX4_init_145 : decode cX4_init 145 = .ok (.aload_n 0, 1) := by decide +kernel
theorem dX4_init_146 : decode cX4_init 146 = .ok (.bipush 16, 2) := by decide +kernel
theorem dX4_init_148 : decode cX4_init 148 = .ok (.newarray .boolean, 2) := by decide +kernel
theorem dX4_init_150 : decode cX4_init 150 = .ok (.putfield 66, 3) := by decide +kernel
theorem dX4_init_153 : decode cX4_init 153 = .ok (.aload_n 0, 1) := by decide +kernel
theorem dX4_init_154 : decode cX4_init 154 = .ok (.bipush 16, 2) := by decide +kernel
theorem dX4_init_156 : decode cX4_init 156 = .ok (.newarray .int, 2) := by decide +kernel
theorem dX4_init_158 : decode cX4_init 158 = .ok (.putfield 70, 3) := by decide +kernel
theorem dX4_init_161 : decode cX4_init 161 = .ok (.aload_n 0, 1) := by decide +kernel
theorem dX4_init_162 : decode cX4_init 162 = .ok (.bipush 16, 2) := by decide +kernel
theorem dX4_init_164 : decode cX4_init 164 = .ok (.newarray .int, 2) := by decide +kernel
theorem dX4_init_166 : decode cX4_init 166 = .ok (.putfield 73, 3) := by decide +kernel
theorem dX4_init_169 : decode cX4_init 169 = .ok (.aload_n 0, 1) := by decide +kernel
theorem dX4_init_170 : decode cX4_init 170 = .ok (.bipush 16, 2) := by decide +kernel
theorem dX4_init_172 : decode cX4_init 172 = .ok (.newarray .int, 2) := by decide +kernel
theorem dX4_init_174 : decode cX4_init 174 = .ok (.putfield 76, 3) := by decide +kernel
theorem dX4_init_177 : decode cX4_init 177 = .ok (.aload_n 0, 1) := by decide +kernel
theorem dX4_init_178 : decode cX4_init 178 = .ok (.iconst 3, 1) := by decide +kernel
theorem dX4_init_179 : decode cX4_init 179 = .ok (.newarray .int, 2) := by decide +kernel
theorem dX4_init_181 : decode cX4_init 181 = .ok (.putfield 79, 3) := by decide +kernel
theorem dX4_init_184 : decode cX4_init 184 = .ok (.aload_n 0, 1) := by decide +kernel
theorem dX4_init_185 : decode cX4_init 185 = .ok (.iconst 3, 1) := by decide +kernel
theorem dX4_init_186 : decode cX4_init 186 = .ok (.newarray .int, 2) := by decide +kernel
theorem dX4_init_188 : decode cX4_init 188 = .ok (.putfield 82, 3) := by decide +kernel
theorem dX4_init_191 : decode cX4_init 191 = .ok (.aload_n 0, 1) := by decide +kernel
theorem dX4_init_192 : decode cX4_init 192 = .ok (.iconst 3, 1) := by decide +kernel
theorem dX4_init_193 : decode cX4_init 193 = .ok (.newarray .int, 2) := by decide +kernel
theorem dX4_init_195 : decode cX4_init 195 = .ok (.putfield 85, 3) := by decide +kernel
theorem dX4_init_198 : decode cX4_init 198 = .ok (.return_, 1) := by decide +kernel
theorem dX4_thrown_0 : decode cX4_thrown 0 = .ok (.aload_n 0, 1) := by decide +kernel
theorem dX4_thrown_1 : decode cX4_thrown 1 = .ok (.getfield 88, 3) := by decide +kernel
theorem dX4_thrown_4 : decode cX4_thrown 4 = .ok (.ireturn, 1) := by decide +kernel
theorem dX4_fails_0 : decode cX4_fails 0 = .ok (.aload_n 0, 1) := by decide +kernel
theorem dX4_fails_1 : decode cX4_fails 1 = .ok (.iload_n 1, 1) := by decide +kernel
theorem dX4_fails_2 : decode cX4_fails 2 = .ok (.putfield 88, 3) := by decide +kernel
theorem dX4_fails_5 : decode cX4_fails 5 = .ok (.iload_n 1, 1) := by decide +kernel
theorem dX4_fails_6 : decode cX4_fails 6 = .ok (.ifCond .le 7, 3) := by decide +kernel
theorem dX4_fails_9 : decode cX4_fails 9 = .ok (.iconst 1, 1) := by decide +kernel
theorem dX4_fails_10 : decode cX4_fails 10 = .ok (.goto 4, 3) := by decide +kernel
theorem dX4_fails_13 : decode cX4_fails 13 = .ok (.iconst 0, 1) := by decide +kernel
theorem dX4_fails_14 : decode cX4_fails 14 = .ok (.ireturn, 1) := by decide +kernel
theorem dX4_isIn_0 : decode cX4_isIn 0 = .ok (.iload_n 0, 1) := by decide +kernel
theorem dX4_isIn_1 : decode cX4_isIn 1 = .ok (.iload_n 1, 1) := by decide +kernel
theorem dX4_isIn_2 : decode cX4_isIn 2 = .ok (.if_icmp .lt 12, 3) := by decide +kernel
theorem dX4_isIn_5 : decode cX4_isIn 5 = .ok (.iload_n 0, 1) := by decide +kernel
theorem dX4_isIn_6 : decode cX4_isIn 6 = .ok (.iload_n 2, 1) := by decide +kernel
theorem dX4_isIn_7 : decode cX4_isIn 7 = .ok (.if_icmp .gt 7, 3) := by decide +kernel
theorem dX4_isIn_10 : decode cX4_isIn 10 = .ok (.iconst 1, 1) := by decide +kernel
theorem dX4_isIn_11 : decode cX4_isIn 11 = .ok (.goto 4, 3) := by decide +kernel
theorem dX4_isIn_14 : decode cX4_isIn 14 = .ok (.iconst 0, 1) := by decide +kernel
theorem dX4_isIn_15 : decode cX4_isIn 15 = .ok (.ireturn, 1) := by decide +kernel
theorem dX4_isPiece_0 : decode cX4_isPiece 0 = .ok (.iload_n 1, 1) := by decide +kernel
theorem dX4_isPiece_1 : decode cX4_isPiece 1 = .ok (.iconst 0, 1) := by decide +kernel
theorem dX4_isPiece_2 : decode cX4_isPiece 2 = .ok (.aload_n 0, 1) := by decide +kernel
theorem dX4_isPiece_3 : decode cX4_isPiece 3 = .ok (.getfield 91, 3) := by decide +kernel
theorem dX4_isPiece_6 : decode cX4_isPiece 6 = .ok (.iconst 1, 1) := by decide +kernel
theorem dX4_isPiece_7 : decode cX4_isPiece 7 = .ok (.isub, 1) := by decide +kernel
theorem dX4_isPiece_8 : decode cX4_isPiece 8 = .ok (.invokestatic 94, 3) := by decide +kernel
theorem dX4_isPiece_11 : decode cX4_isPiece 11 = .ok (.ireturn, 1) := by decide +kernel
theorem dX4_isVehicle_0 : decode cX4_isVehicle 0 = .ok (.iload_n 1, 1) := by decide +kernel
theorem dX4_isVehicle_1 : decode cX4_isVehicle 1 = .ok (.iconst 0, 1) := by decide +kernel
theorem dX4_isVehicle_2 : decode cX4_isVehicle 2 = .ok (.aload_n 0, 1) := by decide +kernel
theorem dX4_isVehicle_3 : decode cX4_isVehicle 3 = .ok (.getfield 98, 3) := by decide +kernel
theorem dX4_isVehicle_6 : decode cX4_isVehicle 6 = .ok (.iconst 1, 1) := by decide +kernel
theorem dX4_isVehicle_7 : decode cX4_isVehicle 7 = .ok (.isub, 1) := by decide +kernel
theorem dX4_isVehicle_8 : decode cX4_isVehicle 8 = .ok (.invokestatic 94, 3) := by decide +kernel
theorem dX4_isVehicle_11 : decode cX4_isVehicle 11 = .ok (.ireturn, 1) := by decide +kernel
theorem dX4_isGoods_0 : decode cX4_isGoods 0 = .ok (.iload_n 0, 1) := by decide +kernel
theorem dX4_isGoods_1 : decode cX4_isGoods 1 = .ok (.iconst 0, 1) := by decide +kernel
theorem dX4_isGoods_2 : decode cX4_isGoods 2 = .ok (.iconst 2, 1) := by decide +kernel
theorem dX4_isGoods_3 : decode cX4_isGoods 3 = .ok (.invokestatic 94, 3) := by decide +kernel
theorem dX4_isGoods_6 : decode cX4_isGoods 6 = .ok (.ireturn, 1) := by decide +kernel
theorem dX4_isWater_0 : decode cX4_isWater 0 = .ok (.aload_n 0, 1) := by decide +kernel
theorem dX4_isWater_1 : decode cX4_isWater 1 = .ok (.getfield 13, 3) := by decide +kernel
theorem dX4_isWater_4 : decode cX4_isWater 4 = .ok (.iload_n 1, 1) := by decide +kernel
theorem dX4_isWater_5 : decode cX4_isWater 5 = .ok (.iaload, 1) := by decide +kernel
theorem dX4_isWater_6 : decode cX4_isWater 6 = .ok (.iconst 2, 1) := by decide +kernel
theorem dX4_isWater_7 : decode cX4_isWater 7 = .ok (.if_icmp .eq 7, 3) := by decide +kernel
theorem dX4_isWater_10 : decode cX4_isWater 10 = .ok (.iconst 1, 1) := by decide +kernel
theorem dX4_isWater_11 : decode cX4_isWater 11 = .ok (.goto 4, 3) := by decide +kernel
theorem dX4_isWater_14 : decode cX4_isWater 14 = .ok (.iconst 0, 1) := by decide +kernel
theorem dX4_isWater_15 : decode cX4_isWater 15 = .ok (.ireturn, 1) := by decide +kernel
theorem dX4_piece_0 : decode cX4_piece 0 = .ok (.iload_n 1, 1) := by decide +kernel
theorem dX4_piece_1 : decode cX4_piece 1 = .ok (.iconst 0, 1) := by decide +kernel
theorem dX4_piece_2 : decode cX4_piece 2 = .ok (.iconst 2, 1) := by decide +kernel
theorem dX4_piece_3 : decode cX4_piece 3 = .ok (.invokestatic 94, 3) := by decide +kernel
theorem dX4_piece_6 : decode cX4_piece 6 = .ok (.ifCond .eq 29, 3) := by decide +kernel
theorem dX4_piece_9 : decode cX4_piece 9 = .ok (.iload_n 2, 1) := by decide +kernel
theorem dX4_piece_10 : decode cX4_piece 10 = .ok (.iconst 1, 1) := by decide +kernel
theorem dX4_piece_11 : decode cX4_piece 11 = .ok (.sipush 20000, 3) := by decide +kernel
theorem dX4_piece_14 : decode cX4_piece 14 = .ok (.invokestatic 94, 3) := by decide +kernel
theorem dX4_piece_17 : decode cX4_piece 17 = .ok (.ifCond .eq 18, 3) := by decide +kernel
theorem dX4_piece_20 : decode cX4_piece 20 = .ok (.iload_n 3, 1) := by decide +kernel
theorem dX4_piece_21 : decode cX4_piece 21 = .ok (.iconst 1, 1) := by decide +kernel
theorem dX4_piece_22 : decode cX4_piece 22 = .ok (.sipush 999, 3) := by decide +kernel
theorem dX4_piece_25 : decode cX4_piece 25 = .ok (.invokestatic 94, 3) := by decide +kernel
theorem dX4_piece_28 : decode cX4_piece 28 = .ok (.ifCond .eq 7, 3) := by decide +kernel
theorem dX4_piece_31 : decode cX4_piece 31 = .ok (.iconst 1, 1) := by decide +kernel
theorem dX4_piece_32 : decode cX4_piece 32 = .ok (.goto 4, 3) := by decide +kernel
theorem dX4_piece_35 : decode cX4_piece 35 = .ok (.iconst 0, 1) := by decide +kernel
theorem dX4_piece_36 : decode cX4_piece 36 = .ok (.istore 4, 2) := by decide +kernel
theorem dX4_piece_38 : decode cX4_piece 38 = .ok (.aload_n 0, 1) := by decide +kernel
theorem dX4_piece_39 : decode cX4_piece 39 = .ok (.iload 4, 2) := by decide +kernel
theorem dX4_piece_41 : decode cX4_piece 41 = .ok (.ifCond .ne 7, 3) := by decide +kernel
theorem dX4_piece_44 : decode cX4_piece 44 = .ok (.iconst 1, 1) := by decide +kernel
theorem dX4_piece_45 : decode cX4_piece 45 = .ok (.goto 24, 3) := by decide +kernel
theorem dX4_piece_48 : decode cX4_piece 48 = .ok (.aload_n 0, 1) := by decide +kernel
theorem dX4_piece_49 : decode cX4_piece 49 = .ok (.getfield 91, 3) := by decide +kernel
theorem dX4_piece_52 : decode cX4_piece 52 = .ok (.bipush 10, 2) := by decide +kernel
theorem dX4_piece_54 : decode cX4_piece 54 = .ok (.if_icmp .eq 10, 3) := by decide +kernel
theorem dX4_piece_57 : decode cX4_piece 57 = .ok (.aload_n 0, 1) := by decide +kernel
theorem dX4_piece_58 : decode cX4_piece 58 = .ok (.getfield 98, 3) := by decide +kernel
theorem dX4_piece_61 : decode cX4_piece 61 = .ok (.ifCond .le 7, 3) := by decide +kernel
theorem dX4_piece_64 : decode cX4_piece 64 = .ok (.iconst 2, 1) := by decide +kernel
theorem dX4_piece_65 : decode cX4_piece 65 = .ok (.goto 4, 3) := by decide +kernel
theorem dX4_piece_68 : decode cX4_piece 68 = .ok (.iconst 0, 1) := by decide +kernel
theorem dX4_piece_69 : decode cX4_piece 69 = .ok (.invokevirtual 101, 3) := by decide +kernel
theorem dX4_piece_72 : decode cX4_piece 72 = .ok (.ifCond .eq 5, 3) := by decide +kernel
theorem dX4_piece_75 : decode cX4_piece 75 = .ok (.iconst 0, 1) := by decide +kernel
theorem dX4_piece_76 : decode cX4_piece 76 = .ok (.ireturn, 1) := by decide +kernel
theorem dX4_piece_77 : decode cX4_piece 77 = .ok (.aload_n 0, 1) := by decide +kernel
theorem dX4_piece_78 : decode cX4_piece 78 = .ok (.getfield 13, 3) := by decide +kernel
theorem dX4_piece_81 : decode cX4_piece 81 = .ok (.aload_n 0, 1) := by decide +kernel
theorem dX4_piece_82 : decode cX4_piece 82 = .ok (.getfield 91, 3) := by decide +kernel
theorem dX4_piece_85 : decode cX4_piece 85 = .ok (.iload_n 1, 1) := by decide +kernel
theorem dX4_piece_86 : decode cX4_piece 86 = .ok (.iastore, 1) := by decide +kernel
theorem dX4_piece_87 : decode cX4_piece 87 = .ok (.aload_n 0, 1) := by decide +kernel
theorem dX4_piece_88 : decode cX4_piece 88 = .ok (.getfield 17, 3) := by decide +kernel
theorem dX4_piece_91 : decode cX4_piece 91 = .ok (.aload_n 0, 1) := by decide +kernel
theorem dX4_piece_92 : decode cX4_piece 92 = .ok (.getfield 91, 3) := by decide +kernel
theorem dX4_piece_95 : decode cX4_piece 95 = .ok (.iload_n 2, 1) := by decide +kernel
theorem dX4_piece_96 : decode cX4_piece 96 = .ok (.iastore, 1) := by decide +kernel
theorem dX4_piece_97 : decode cX4_piece 97 = .ok (.aload_n 0, 1) := by decide +kernel
theorem dX4_piece_98 : decode cX4_piece 98 = .ok (.getfield 20, 3) := by decide +kernel
theorem dX4_piece_101 : decode cX4_piece 101 = .ok (.aload_n 0, 1) := by decide +kernel
theorem dX4_piece_102 : decode cX4_piece 102 = .ok (.getfield 91, 3) := by decide +kernel
theorem dX4_piece_105 : decode cX4_piece 105 = .ok (.iload_n 3, 1) := by decide +kernel
theorem dX4_piece_106 : decode cX4_piece 106 = .ok (.iastore, 1) := by decide +kernel
theorem dX4_piece_107 : decode cX4_piece 107 = .ok (.aload_n 0, 1) := by decide +kernel
theorem dX4_piece_108 : decode cX4_piece 108 = .ok (.getfield 41, 3) := by decide +kernel
theorem dX4_piece_111 : decode cX4_piece 111 = .ok (.aload_n 0, 1) := by decide +kernel
theorem dX4_piece_112 : decode cX4_piece 112 = .ok (.getfield 91, 3) := by decide +kernel
theorem dX4_piece_115 : decode cX4_piece 115 = .ok (.bipush 100, 2) := by decide +kernel
theorem dX4_piece_117 : decode cX4_piece 117 = .ok (.iastore, 1) := by decide +kernel
theorem dX4_piece_118 : decode cX4_piece 118 = .ok (.aload_n 0, 1) := by decide +kernel
theorem dX4_piece_119 : decode cX4_piece 119 = .ok (.getfield 48, 3) := by decide +kernel
theorem dX4_piece_122 : decode cX4_piece 122 = .ok (.iconst 2, 1) := by decide +kernel
theorem dX4_piece_123 : decode cX4_piece 123 = .ok (.aload_n 0, 1) := by decide +kernel
theorem dX4_piece_124 : decode cX4_piece 124 = .ok (.getfield 91, 3) := by decide +kernel
theorem dX4_piece_127 : decode cX4_piece 127 = .ok (.imul, 1) := by decide +kernel
theorem dX4_piece_128 : decode cX4_piece 128 = .ok (.ldc 105, 2) := by decide +kernel
theorem dX4_piece_130 : decode cX4_piece 130 = .ok (.iastore, 1) := by decide +kernel
theorem dX4_piece_131 : decode cX4_piece 131 = .ok (.aload_n 0, 1) := by decide +kernel
theorem dX4_piece_132 : decode cX4_piece 132 = .ok (.getfield 48, 3) := by decide +kernel
theorem dX4_piece_135 : decode cX4_piece 135 = .ok (.iconst 2, 1) := by decide +kernel
theorem dX4_piece_136 : decode cX4_piece 136 = .ok (.aload_n 0, 1) := by decide +kernel
theorem dX4_piece_137 : decode cX4_piece 137 = .ok (.getfield 91, 3) := by decide +kernel
theorem dX4_piece_140 : decode cX4_piece 140 = .ok (.imul, 1) := by decide +kernel
theorem dX4_piece_141 : decode cX4_piece 141 = .ok (.iconst 1, 1) := by decide +kernel
theorem dX4_piece_142 : decode cX4_piece 142 = .ok (.iadd, 1) := by decide +kernel
theorem dX4_piece_143 : decode cX4_piece 143 = .ok (.ldc 105, 2) := by decide +kernel
theorem dX4_piece_145 : decode cX4_piece 145 = .ok (.iastore, 1) := by decide +kernel
theorem dX4_piece_146 : decode cX4_piece 146 = .ok (.aload_n 0, 1) := by decide +kernel
theorem dX4_piece_147 : decode cX4_piece 147 = .ok (.dup, 1) := by decide +kernel
theorem dX4_piece_148 : decode cX4_piece 148 = .ok (.getfield 91, 3) := by decide +kernel
theorem dX4_piece_151 : decode cX4_piece 151 = .ok (.iconst 1, 1) := by decide +kernel
theorem dX4_piece_152 : decode cX4_piece 152 = .ok (.iadd, 1) := by decide +kernel
theorem dX4_piece_153 : decode cX4_piece 153 = .ok (.putfield 91, 3) := by decide +kernel
theorem dX4_piece_156 : decode cX4_piece 156 = .ok (.aload_n 0, 1) := by decide +kernel
theorem dX4_piece_157 : decode cX4_piece 157 = .ok (.getfield 91, 3) := by decide +kernel
theorem dX4_piece_160 : decode cX4_piece 160 = .ok (.iconst 1, 1) := by decide +kernel
theorem dX4_piece_161 : decode cX4_piece 161 = .ok (.isub, 1) := by decide +kernel
theorem dX4_piece_162 : decode cX4_piece 162 = .ok (.ireturn, 1) := by decide +kernel
theorem dX4_weather_0 : decode cX4_weather 0 = .ok (.aload_n 0, 1) := by decide +kernel
theorem dX4_weather_1 : decode cX4_weather 1 = .ok (.iload_n 1, 1) := by decide +kernel
theorem dX4_weather_2 : decode cX4_weather 2 = .ok (.bipush (-20), 2) := by decide +kernel
theorem dX4_weather_4 : decode cX4_weather 4 = .ok (.bipush 60, 2) := by decide +kernel
theorem dX4_weather_6 : decode cX4_weather 6 = .ok (.invokestatic 94, 3) := by decide +kernel
theorem dX4_weather_9 : decode cX4_weather 9 = .ok (.ifCond .eq 7, 3) := by decide +kernel
theorem dX4_weather_12 : decode cX4_weather 12 = .ok (.iconst 0, 1) := by decide +kernel
theorem dX4_weather_13 : decode cX4_weather 13 = .ok (.goto 4, 3) := by decide +kernel
theorem dX4_weather_16 : decode cX4_weather 16 = .ok (.iconst 1, 1) := by decide +kernel
theorem dX4_weather_17 : decode cX4_weather 17 = .ok (.invokevirtual 101, 3) := by decide +kernel
theorem dX4_weather_20 : decode cX4_weather 20 = .ok (.ifCond .eq 5, 3) := by decide +kernel
theorem dX4_weather_23 : decode cX4_weather 23 = .ok (.iconst 0, 1) := by decide +kernel
theorem dX4_weather_24 : decode cX4_weather 24 = .ok (.ireturn, 1) := by decide +kernel
theorem dX4_weather_25 : decode cX4_weather 25 = .ok (.aload_n 0, 1) := by decide +kernel
theorem dX4_weather_26 : decode cX4_weather 26 = .ok (.getfield 106, 3) := by decide +kernel
theorem dX4_weather_29 : decode cX4_weather 29 = .ok (.istore_n 2, 1) := by decide +kernel
theorem dX4_weather_30 : decode cX4_weather 30 = .ok (.aload_n 0, 1) := by decide +kernel
theorem dX4_weather_31 : decode cX4_weather 31 = .ok (.iload_n 1, 1) := by decide +kernel
theorem dX4_weather_32 : decode cX4_weather 32 = .ok (.putfield 106, 3) := by decide +kernel
theorem dX4_weather_35 : decode cX4_weather 35 = .ok (.iload_n 2, 1) := by decide +kernel
theorem dX4_weather_36 : decode cX4_weather 36 = .ok (.ireturn, 1) := by decide +kernel
theorem dX4_snow_0 : decode cX4_snow 0 = .ok (.aload_n 0, 1) := by decide +kernel
theorem dX4_snow_1 : decode cX4_snow 1 = .ok (.iload_n 1, 1) := by decide +kernel
theorem dX4_snow_2 : decode cX4_snow 2 = .ok (.iconst 1, 1) := by decide +kernel
theorem dX4_snow_3 : decode cX4_snow 3 = .ok (.sipush 500, 3) := by decide +kernel
theorem dX4_snow_6 : decode cX4_snow 6 = .ok (.invokestatic 94, 3) := by decide +kernel
theorem dX4_snow_9 : decode cX4_snow 9 = .ok (.ifCond .eq 7, 3) := by decide +kernel
theorem dX4_snow_12 : decode cX4_snow 12 = .ok (.iconst 0, 1) := by decide +kernel
theorem dX4_snow_13 : decode cX4_snow 13 = .ok (.goto 4, 3) := by decide +kernel
theorem dX4_snow_16 : decode cX4_snow 16 = .ok (.iconst 1, 1) := by decide +kernel
theorem dX4_snow_17 : decode cX4_snow 17 = .ok (.invokevirtual 101, 3) := by decide +kernel
theorem dX4_snow_20 : decode cX4_snow 20 = .ok (.ifCond .eq 5, 3) := by decide +kernel
theorem dX4_snow_23 : decode cX4_snow 23 = .ok (.iconst 0, 1) := by decide +kernel
theorem dX4_snow_24 : decode cX4_snow 24 = .ok (.ireturn, 1) := by decide +kernel
theorem dX4_snow_25 : decode cX4_snow 25 = .ok (.iconst 0, 1) := by decide +kernel
theorem dX4_snow_26 : decode cX4_snow 26 = .ok (.istore_n 2, 1) := by decide +kernel
theorem dX4_snow_27 : decode cX4_snow 27 = .ok (.iload_n 2, 1) := by decide +kernel
theorem dX4_snow_28 : decode cX4_snow 28 = .ok (.aload_n 0, 1) := by decide +kernel
theorem dX4_snow_29 : decode cX4_snow 29 = .ok (.getfield 91, 3) := by decide +kernel
theorem dX4_snow_32 : decode cX4_snow 32 = .ok (.if_icmp .ge 19, 3) := by decide +kernel
theorem dX4_snow_35 : decode cX4_snow 35 = .ok (.aload_n 0, 1) := by decide +kernel
theorem dX4_snow_36 : decode cX4_snow 36 = .ok (.getfield 32, 3) := by decide +kernel
theorem dX4_snow_39 : decode cX4_snow 39 = .ok (.iload_n 2, 1) := by decide +kernel
theorem dX4_snow_40 : decode cX4_snow 40 = .ok (.dup2, 1) := by decide +kernel
theorem dX4_snow_41 : decode cX4_snow 41 = .ok (.iaload, 1) := by decide +kernel
theorem dX4_snow_42 : decode cX4_snow 42 = .ok (.iload_n 1, 1) := by decide +kernel
theorem dX4_snow_43 : decode cX4_snow 43 = .ok (.iadd, 1) := by decide +kernel
theorem dX4_snow_44 : decode cX4_snow 44 = .ok (.iastore, 1) := by decide +kernel
theorem dX4_snow_45 : decode cX4_snow 45 = .ok (.iinc 2 1, 3) := by decide +kernel
theorem dX4_snow_48 : decode cX4_snow 48 = .ok (.goto (-21), 3) := by decide +kernel
theorem dX4_snow_51 : decode cX4_snow 51 = .ok (.aload_n 0, 1) := by decide +kernel
theorem dX4_snow_52 : decode cX4_snow 52 = .ok (.getfield 91, 3) := by decide +kernel
theorem dX4_snow_55 : decode cX4_snow 55 = .ok (.ireturn, 1) := by decide +kernel
theorem dX4_plough_0 : decode cX4_plough 0 = .ok (.aload_n 0, 1) := by decide +kernel
theorem dX4_plough_1 : decode cX4_plough 1 = .ok (.aload_n 0, 1) := by decide +kernel
theorem dX4_plough_2 : decode cX4_plough 2 = .ok (.iload_n 1, 1) := by decide +kernel
theorem dX4_plough_3 : decode cX4_plough 3 = .ok (.invokevirtual 109, 3) := by decide +kernel
theorem dX4_plough_6 : decode cX4_plough 6 = .ok (.ifCond .eq 7, 3) := by decide +kernel
theorem dX4_plough_9 : decode cX4_plough 9 = .ok (.iconst 0, 1) := by decide +kernel
theorem dX4_plough_10 : decode cX4_plough 10 = .ok (.goto 4, 3) := by decide +kernel
theorem dX4_plough_13 : decode cX4_plough 13 = .ok (.iconst 1, 1) := by decide +kernel
theorem dX4_plough_14 : decode cX4_plough 14 = .ok (.invokevirtual 101, 3) := by decide +kernel
theorem dX4_plough_17 : decode cX4_plough 17 = .ok (.ifCond .eq 5, 3) := by decide +kernel
theorem dX4_plough_20 : decode cX4_plough 20 = .ok (.iconst 0, 1) := by decide +kernel
theorem dX4_plough_21 : decode cX4_plough 21 = .ok (.ireturn, 1) := by decide +kernel
theorem dX4_plough_22 : decode cX4_plough 22 = .ok (.aload_n 0, 1) := by decide +kernel
theorem dX4_plough_23 : decode cX4_plough 23 = .ok (.getfield 32, 3) := by decide +kernel
theorem dX4_plough_26 : decode cX4_plough 26 = .ok (.iload_n 1, 1) := by decide +kernel
theorem dX4_plough_27 : decode cX4_plough 27 = .ok (.iaload, 1) := by decide +kernel
theorem dX4_plough_28 : decode cX4_plough 28 = .ok (.istore_n 2, 1) := by decide +kernel
theorem dX4_plough_29 : decode cX4_plough 29 = .ok (.aload_n 0, 1) := by decide +kernel
theorem dX4_plough_30 : decode cX4_plough 30 = .ok (.getfield 32, 3) := by decide +kernel
theorem dX4_plough_33 : decode cX4_plough 33 = .ok (.iload_n 1, 1) := by decide +kernel
theorem dX4_plough_34 : decode cX4_plough 34 = .ok (.iconst 0, 1) := by decide +kernel
theorem dX4_plough_35 : decode cX4_plough 35 = .ok (.iastore, 1) := by decide +kernel
theorem dX4_plough_36 : decode cX4_plough 36 = .ok (.iload_n 2, 1) := by decide +kernel
theorem dX4_plough_37 : decode cX4_plough 37 = .ok (.ireturn, 1) := by decide +kernel
theorem dX4_flood_0 : decode cX4_flood 0 = .ok (.aload_n 0, 1) := by decide +kernel
theorem dX4_flood_1 : decode cX4_flood 1 = .ok (.iload_n 1, 1) := by decide +kernel
theorem dX4_flood_2 : decode cX4_flood 2 = .ok (.invokevirtual 109, 3) := by decide +kernel
theorem dX4_flood_5 : decode cX4_flood 5 = .ok (.istore_n 3, 1) := by decide +kernel
theorem dX4_flood_6 : decode cX4_flood 6 = .ok (.iload_n 2, 1) := by decide +kernel
theorem dX4_flood_7 : decode cX4_flood 7 = .ok (.iconst 1, 1) := by decide +kernel
theorem dX4_flood_8 : decode cX4_flood 8 = .ok (.bipush 100, 2) := by decide +kernel
theorem dX4_flood_10 : decode cX4_flood 10 = .ok (.invokestatic 94, 3) := by decide +kernel
theorem dX4_flood_13 : decode cX4_flood 13 = .ok (.istore 4, 2) := by decide +kernel
theorem dX4_flood_15 : decode cX4_flood 15 = .ok (.iload_n 3, 1) := by decide +kernel
theorem dX4_flood_16 : decode cX4_flood 16 = .ok (.ifCond .eq 50, 3) := by decide +kernel
theorem dX4_flood_19 : decode cX4_flood 19 = .ok (.iload 4, 2) := by decide +kernel
theorem dX4_flood_21 : decode cX4_flood 21 = .ok (.ifCond .eq 45, 3) := by decide +kernel
theorem dX4_flood_24 : decode cX4_flood 24 = .ok (.aload_n 0, 1) := by decide +kernel
theorem dX4_flood_25 : decode cX4_flood 25 = .ok (.iload_n 1, 1) := by decide +kernel
theorem dX4_flood_26 : decode cX4_flood 26 = .ok (.invokevirtual 112, 3) := by decide +kernel
theorem dX4_flood_29 : decode cX4_flood 29 = .ok (.ifCond .eq 37, 3) := by decide +kernel
theorem dX4_flood_32 : decode cX4_flood 32 = .ok (.aload_n 0, 1) := by decide +kernel
theorem dX4_flood_33 : decode cX4_flood 33 = .ok (.getfield 23, 3) := by decide +kernel
theorem dX4_flood_36 : decode cX4_flood 36 = .ok (.iload_n 1, 1) := by decide +kernel
theorem dX4_flood_37 : decode cX4_flood 37 = .ok (.iaload, 1) := by decide +kernel
theorem dX4_flood_38 : decode cX4_flood 38 = .ok (.aload_n 0, 1) := by decide +kernel
theorem dX4_flood_39 : decode cX4_flood 39 = .ok (.getfield 26, 3) := by decide +kernel
theorem dX4_flood_42 : decode cX4_flood 42 = .ok (.iload_n 1, 1) := by decide +kernel
theorem dX4_flood_43 : decode cX4_flood 43 = .ok (.iaload, 1) := by decide +kernel
theorem dX4_flood_44 : decode cX4_flood 44 = .ok (.iadd, 1) := by decide +kernel
theorem dX4_flood_45 : decode cX4_flood 45 = .ok (.ifCond .le 21, 3) := by decide +kernel
theorem dX4_flood_48 : decode cX4_flood 48 = .ok (.aload_n 0, 1) := by decide +kernel
theorem dX4_flood_49 : decode cX4_flood 49 = .ok (.getfield 29, 3) := by decide +kernel
theorem dX4_flood_52 : decode cX4_flood 52 = .ok (.iload_n 1, 1) := by decide +kernel
theorem dX4_flood_53 : decode cX4_flood 53 = .ok (.iaload, 1) := by decide +kernel
theorem dX4_flood_54 : decode cX4_flood 54 = .ok (.iload_n 2, 1) := by decide +kernel
theorem dX4_flood_55 : decode cX4_flood 55 = .ok (.iadd, 1) := by decide +kernel
theorem dX4_flood_56 : decode cX4_flood 56 = .ok (.sipush 500, 3) := by decide +kernel
theorem dX4_flood_59 : decode cX4_flood 59 = .ok (.if_icmp .gt 7, 3) := by decide +kernel
theorem dX4_flood_62 : decode cX4_flood 62 = .ok (.iconst 1, 1) := by decide +kernel
theorem dX4_flood_63 : decode cX4_flood 63 = .ok (.goto 4, 3) := by decide +kernel
theorem dX4_flood_66 : decode cX4_flood 66 = .ok (.iconst 0, 1) := by decide +kernel
theorem dX4_flood_67 : decode cX4_flood 67 = .ok (.istore 5, 2) := by decide +kernel
theorem dX4_flood_69 : decode cX4_flood 69 = .ok (.aload_n 0, 1) := by decide +kernel
theorem dX4_flood_70 : decode cX4_flood 70 = .ok (.iload_n 3, 1) := by decide +kernel
theorem dX4_flood_71 : decode cX4_flood 71 = .ok (.ifCond .ne 7, 3) := by decide +kernel
theorem dX4_flood_74 : decode cX4_flood 74 = .ok (.iconst 1, 1) := by decide +kernel
theorem dX4_flood_75 : decode cX4_flood 75 = .ok (.goto 22, 3) := by decide +kernel
theorem dX4_flood_78 : decode cX4_flood 78 = .ok (.iload 4, 2) := by decide +kernel
theorem dX4_flood_80 : decode cX4_flood 80 = .ok (.ifCond .ne 7, 3) := by decide +kernel
theorem dX4_flood_83 : decode cX4_flood 83 = .ok (.iconst 2, 1) := by decide +kernel
theorem dX4_flood_84 : decode cX4_flood 84 = .ok (.goto 13, 3) := by decide +kernel
theorem dX4_flood_87 : decode cX4_flood 87 = .ok (.iload 5, 2) := by decide +kernel
theorem dX4_flood_89 : decode cX4_flood 89 = .ok (.ifCond .eq 7, 3) := by decide +kernel
theorem dX4_flood_92 : decode cX4_flood 92 = .ok (.iconst 0, 1) := by decide +kernel
theorem dX4_flood_93 : decode cX4_flood 93 = .ok (.goto 4, 3) := by decide +kernel
theorem dX4_flood_96 : decode cX4_flood 96 = .ok (.iconst 3, 1) := by decide +kernel
theorem dX4_flood_97 : decode cX4_flood 97 = .ok (.invokevirtual 101, 3) := by decide +kernel
theorem dX4_flood_100 : decode cX4_flood 100 = .ok (.ifCond .eq 5, 3) := by decide +kernel
theorem dX4_flood_103 : decode cX4_flood 103 = .ok (.iconst 0, 1) := by decide +kernel
theorem dX4_flood_104 : decode cX4_flood 104 = .ok (.ireturn, 1) := by decide +kernel
theorem dX4_flood_105 : decode cX4_flood 105 = .ok (.aload_n 0, 1) := by decide +kernel
theorem dX4_flood_106 : decode cX4_flood 106 = .ok (.getfield 32, 3) := by decide +kernel
theorem dX4_flood_109 : decode cX4_flood 109 = .ok (.iload_n 1, 1) := by decide +kernel
theorem dX4_flood_110 : decode cX4_flood 110 = .ok (.iconst 0, 1) := by decide +kernel
theorem dX4_flood_111 : decode cX4_flood 111 = .ok (.iastore, 1) := by decide +kernel
theorem dX4_flood_112 : decode cX4_flood 112 = .ok (.aload_n 0, 1) := by decide +kernel
theorem dX4_flood_113 : decode cX4_flood 113 = .ok (.getfield 29, 3) := by decide +kernel
theorem dX4_flood_116 : decode cX4_flood 116 = .ok (.iload_n 1, 1) := by decide +kernel
theorem dX4_flood_117 : decode cX4_flood 117 = .ok (.dup2, 1) := by decide +kernel
theorem dX4_flood_118 : decode cX4_flood 118 = .ok (.iaload, 1) := by decide +kernel
theorem dX4_flood_119 : decode cX4_flood 119 = .ok (.iload_n 2, 1) := by decide +kernel
theorem dX4_flood_120 : decode cX4_flood 120 = .ok (.iadd, 1) := by decide +kernel
theorem dX4_flood_121 : decode cX4_flood 121 = .ok (.iastore, 1) := by decide +kernel
theorem dX4_flood_122 : decode cX4_flood 122 = .ok (.aload_n 0, 1) := by decide +kernel
theorem dX4_flood_123 : decode cX4_flood 123 = .ok (.getfield 29, 3) := by decide +kernel
theorem dX4_flood_126 : decode cX4_flood 126 = .ok (.iload_n 1, 1) := by decide +kernel
theorem dX4_flood_127 : decode cX4_flood 127 = .ok (.iaload, 1) := by decide +kernel
theorem dX4_flood_128 : decode cX4_flood 128 = .ok (.ireturn, 1) := by decide +kernel
theorem dX4_thick_0 : decode cX4_thick 0 = .ok (.aload_n 0, 1) := by decide +kernel
theorem dX4_thick_1 : decode cX4_thick 1 = .ok (.getfield 23, 3) := by decide +kernel
theorem dX4_thick_4 : decode cX4_thick 4 = .ok (.iload_n 1, 1) := by decide +kernel
theorem dX4_thick_5 : decode cX4_thick 5 = .ok (.iaload, 1) := by decide +kernel
theorem dX4_thick_6 : decode cX4_thick 6 = .ok (.i2d, 1) := by decide +kernel
theorem dX4_thick_7 : decode cX4_thick 7 = .ok (.ldc2_w 115, 3) := by decide +kernel
theorem dX4_thick_10 : decode cX4_thick 10 = .ok (.aload_n 0, 1) := by decide +kernel
theorem dX4_thick_11 : decode cX4_thick 11 = .ok (.getfield 26, 3) := by decide +kernel
theorem dX4_thick_14 : decode cX4_thick 14 = .ok (.iload_n 1, 1) := by decide +kernel
theorem dX4_thick_15 : decode cX4_thick 15 = .ok (.iaload, 1) := by decide +kernel
theorem dX4_thick_16 : decode cX4_thick 16 = .ok (.i2d, 1) := by decide +kernel
theorem dX4_thick_17 : decode cX4_thick 17 = .ok (.dmul, 1) := by decide +kernel
theorem dX4_thick_18 : decode cX4_thick 18 = .ok (.dadd, 1) := by decide +kernel
theorem dX4_thick_19 : decode cX4_thick 19 = .ok (.dreturn, 1) := by decide +kernel
theorem dX4_drill_0 : decode cX4_drill 0 = .ok (.aload_n 0, 1) := by decide +kernel
theorem dX4_drill_1 : decode cX4_drill 1 = .ok (.aload_n 0, 1) := by decide +kernel
theorem dX4_drill_2 : decode cX4_drill 2 = .ok (.iload_n 1, 1) := by decide +kernel
theorem dX4_drill_3 : decode cX4_drill 3 = .ok (.invokevirtual 109, 3) := by decide +kernel
theorem dX4_drill_6 : decode cX4_drill 6 = .ok (.ifCond .eq 7, 3) := by decide +kernel
theorem dX4_drill_9 : decode cX4_drill 9 = .ok (.iconst 0, 1) := by decide +kernel
theorem dX4_drill_10 : decode cX4_drill 10 = .ok (.goto 4, 3) := by decide +kernel
theorem dX4_drill_13 : decode cX4_drill 13 = .ok (.iconst 1, 1) := by decide +kernel
theorem dX4_drill_14 : decode cX4_drill 14 = .ok (.invokevirtual 101, 3) := by decide +kernel
theorem dX4_drill_17 : decode cX4_drill 17 = .ok (.ifCond .eq 5, 3) := by decide +kernel
theorem dX4_drill_20 : decode cX4_drill 20 = .ok (.dconst 0, 1) := by decide +kernel
theorem dX4_drill_21 : decode cX4_drill 21 = .ok (.dreturn, 1) := by decide +kernel
theorem dX4_drill_22 : decode cX4_drill 22 = .ok (.aload_n 0, 1) := by decide +kernel
theorem dX4_drill_23 : decode cX4_drill 23 = .ok (.getfield 44, 3) := by decide +kernel
theorem dX4_drill_26 : decode cX4_drill 26 = .ok (.iload_n 1, 1) := by decide +kernel
theorem dX4_drill_27 : decode cX4_drill 27 = .ok (.aload_n 0, 1) := by decide +kernel
theorem dX4_drill_28 : decode cX4_drill 28 = .ok (.iload_n 1, 1) := by decide +kernel
theorem dX4_drill_29 : decode cX4_drill 29 = .ok (.invokevirtual 117, 3) := by decide +kernel
theorem dX4_drill_32 : decode cX4_drill 32 = .ok (.dastore, 1) := by decide +kernel
theorem dX4_drill_33 : decode cX4_drill 33 = .ok (.aload_n 0, 1) := by decide +kernel
theorem dX4_drill_34 : decode cX4_drill 34 = .ok (.getfield 44, 3) := by decide +kernel
theorem dX4_drill_37 : decode cX4_drill 37 = .ok (.iload_n 1, 1) := by decide +kernel
theorem dX4_drill_38 : decode cX4_drill 38 = .ok (.daload, 1) := by decide +kernel
theorem dX4_drill_39 : decode cX4_drill 39 = .ok (.dreturn, 1) := by decide +kernel
theorem dX4_open_0 : decode cX4_open 0 = .ok (.aload_n 0, 1) := by decide +kernel
theorem dX4_open_1 : decode cX4_open 1 = .ok (.aload_n 0, 1) := by decide +kernel
theorem dX4_open_2 : decode cX4_open 2 = .ok (.iload_n 1, 1) := by decide +kernel
theorem dX4_open_3 : decode cX4_open 3 = .ok (.invokevirtual 109, 3) := by decide +kernel
theorem dX4_open_6 : decode cX4_open 6 = .ok (.ifCond .ne 7, 3) := by decide +kernel
theorem dX4_open_9 : decode cX4_open 9 = .ok (.iconst 1, 1) := by decide +kernel
theorem dX4_open_10 : decode cX4_open 10 = .ok (.goto 17, 3) := by decide +kernel
theorem dX4_open_13 : decode cX4_open 13 = .ok (.iload_n 2, 1) := by decide +kernel
theorem dX4_open_14 : decode cX4_open 14 = .ok (.iconst 0, 1) := by decide +kernel
theorem dX4_open_15 : decode cX4_open 15 = .ok (.iconst 2, 1) := by decide +kernel
theorem dX4_open_16 : decode cX4_open 16 = .ok (.invokestatic 94, 3) := by decide +kernel
theorem dX4_open_19 : decode cX4_open 19 = .ok (.ifCond .eq 7, 3) := by decide +kernel
theorem dX4_open_22 : decode cX4_open 22 = .ok (.iconst 0, 1) := by decide +kernel
theorem dX4_open_23 : decode cX4_open 23 = .ok (.goto 4, 3) := by decide +kernel
theorem dX4_open_26 : decode cX4_open 26 = .ok (.iconst 2, 1) := by decide +kernel
theorem dX4_open_27 : decode cX4_open 27 = .ok (.invokevirtual 101, 3) := by decide +kernel
theorem dX4_open_30 : decode cX4_open 30 = .ok (.ifCond .eq 5, 3) := by decide +kernel
theorem dX4_open_33 : decode cX4_open 33 = .ok (.iconst 0, 1) := by decide +kernel
theorem dX4_open_34 : decode cX4_open 34 = .ok (.ireturn, 1) := by decide +kernel
theorem dX4_open_35 : decode cX4_open 35 = .ok (.aload_n 0, 1) := by decide +kernel
theorem dX4_open_36 : decode cX4_open 36 = .ok (.getfield 38, 3) := by decide +kernel
theorem dX4_open_39 : decode cX4_open 39 = .ok (.iload_n 1, 1) := by decide +kernel
theorem dX4_open_40 : decode cX4_open 40 = .ok (.iaload, 1) := by decide +kernel
theorem dX4_open_41 : decode cX4_open 41 = .ok (.istore_n 3, 1) := by decide +kernel
theorem dX4_open_42 : decode cX4_open 42 = .ok (.aload_n 0, 1) := by decide +kernel
theorem dX4_open_43 : decode cX4_open 43 = .ok (.getfield 38, 3) := by decide +kernel
theorem dX4_open_46 : decode cX4_open 46 = .ok (.iload_n 1, 1) := by decide +kernel
theorem dX4_open_47 : decode cX4_open 47 = .ok (.iload_n 2, 1) := by decide +kernel
theorem dX4_open_48 : decode cX4_open 48 = .ok (.iastore, 1) := by decide +kernel
theorem dX4_open_49 : decode cX4_open 49 = .ok (.iload_n 3, 1) := by decide +kernel
theorem dX4_open_50 : decode cX4_open 50 = .ok (.ireturn, 1) := by decide +kernel
theorem dX4_limit_0 : decode cX4_limit 0 = .ok (.aload_n 0, 1) := by decide +kernel
theorem dX4_limit_1 : decode cX4_limit 1 = .ok (.aload_n 0, 1) := by decide +kernel
theorem dX4_limit_2 : decode cX4_limit 2 = .ok (.iload_n 1, 1) := by decide +kernel
theorem dX4_limit_3 : decode cX4_limit 3 = .ok (.invokevirtual 109, 3) := by decide +kernel
theorem dX4_limit_6 : decode cX4_limit 6 = .ok (.ifCond .ne 7, 3) := by decide +kernel
theorem dX4_limit_9 : decode cX4_limit 9 = .ok (.iconst 1, 1) := by decide +kernel
theorem dX4_limit_10 : decode cX4_limit 10 = .ok (.goto 19, 3) := by decide +kernel
theorem dX4_limit_13 : decode cX4_limit 13 = .ok (.iload_n 2, 1) := by decide +kernel
theorem dX4_limit_14 : decode cX4_limit 14 = .ok (.iconst 1, 1) := by decide +kernel
theorem dX4_limit_15 : decode cX4_limit 15 = .ok (.sipush 300, 3) := by decide +kernel
theorem dX4_limit_18 : decode cX4_limit 18 = .ok (.invokestatic 94, 3) := by decide +kernel
theorem dX4_limit_21 : decode cX4_limit 21 = .ok (.ifCond .eq 7, 3) := by decide +kernel
theorem dX4_limit_24 : decode cX4_limit 24 = .ok (.iconst 0, 1) := by decide +kernel
theorem dX4_limit_25 : decode cX4_limit 25 = .ok (.goto 4, 3) := by decide +kernel
theorem dX4_limit_28 : decode cX4_limit 28 = .ok (.iconst 2, 1) := by decide +kernel
theorem dX4_limit_29 : decode cX4_limit 29 = .ok (.invokevirtual 101, 3) := by decide +kernel
theorem dX4_limit_32 : decode cX4_limit 32 = .ok (.ifCond .eq 5, 3) := by decide +kernel
theorem dX4_limit_35 : decode cX4_limit 35 = .ok (.iconst 0, 1) := by decide +kernel
theorem dX4_limit_36 : decode cX4_limit 36 = .ok (.ireturn, 1) := by decide +kernel
theorem dX4_limit_37 : decode cX4_limit 37 = .ok (.aload_n 0, 1) := by decide +kernel
theorem dX4_limit_38 : decode cX4_limit 38 = .ok (.getfield 41, 3) := by decide +kernel
theorem dX4_limit_41 : decode cX4_limit 41 = .ok (.iload_n 1, 1) := by decide +kernel
theorem dX4_limit_42 : decode cX4_limit 42 = .ok (.iaload, 1) := by decide +kernel
theorem dX4_limit_43 : decode cX4_limit 43 = .ok (.istore_n 3, 1) := by decide +kernel
theorem dX4_limit_44 : decode cX4_limit 44 = .ok (.aload_n 0, 1) := by decide +kernel
theorem dX4_limit_45 : decode cX4_limit 45 = .ok (.getfield 41, 3) := by decide +kernel
theorem dX4_limit_48 : decode cX4_limit 48 = .ok (.iload_n 1, 1) := by decide +kernel
theorem dX4_limit_49 : decode cX4_limit 49 = .ok (.iload_n 2, 1) := by decide +kernel
theorem dX4_limit_50 : decode cX4_limit 50 = .ok (.iastore, 1) := by decide +kernel
theorem dX4_limit_51 : decode cX4_limit 51 = .ok (.iload_n 3, 1) := by decide +kernel
theorem dX4_limit_52 : decode cX4_limit 52 = .ok (.ireturn, 1) := by decide +kernel
theorem dX4_gap_0 : decode cX4_gap 0 = .ok (.aload_n 0, 1) := by decide +kernel
theorem dX4_gap_1 : decode cX4_gap 1 = .ok (.iload_n 1, 1) := by decide +kernel
theorem dX4_gap_2 : decode cX4_gap 2 = .ok (.iconst 0, 1) := by decide +kernel
theorem dX4_gap_3 : decode cX4_gap 3 = .ok (.bipush 120, 2) := by decide +kernel
theorem dX4_gap_5 : decode cX4_gap 5 = .ok (.invokestatic 94, 3) := by decide +kernel
theorem dX4_gap_8 : decode cX4_gap 8 = .ok (.ifCond .eq 7, 3) := by decide +kernel
theorem dX4_gap_11 : decode cX4_gap 11 = .ok (.iconst 0, 1) := by decide +kernel
theorem dX4_gap_12 : decode cX4_gap 12 = .ok (.goto 4, 3) := by decide +kernel
theorem dX4_gap_15 : decode cX4_gap 15 = .ok (.iconst 1, 1) := by decide +kernel
theorem dX4_gap_16 : decode cX4_gap 16 = .ok (.invokevirtual 101, 3) := by decide +kernel
theorem dX4_gap_19 : decode cX4_gap 19 = .ok (.ifCond .eq 5, 3) := by decide +kernel
theorem dX4_gap_22 : decode cX4_gap 22 = .ok (.iconst 0, 1) := by decide +kernel
theorem dX4_gap_23 : decode cX4_gap 23 = .ok (.ireturn, 1) := by decide +kernel
theorem dX4_gap_24 : decode cX4_gap 24 = .ok (.aload_n 0, 1) := by decide +kernel
theorem dX4_gap_25 : decode cX4_gap 25 = .ok (.getfield 7, 3) := by decide +kernel
theorem dX4_gap_28 : decode cX4_gap 28 = .ok (.istore_n 2, 1) := by decide +kernel
theorem dX4_gap_29 : decode cX4_gap 29 = .ok (.aload_n 0, 1) := by decide +kernel
theorem dX4_gap_30 : decode cX4_gap 30 = .ok (.iload_n 1, 1) := by decide +kernel
theorem dX4_gap_31 : decode cX4_gap 31 = .ok (.putfield 7, 3) := by decide +kernel
theorem dX4_gap_34 : decode cX4_gap 34 = .ok (.iload_n 2, 1) := by decide +kernel
theorem dX4_gap_35 : decode cX4_gap 35 = .ok (.ireturn, 1) := by decide +kernel
theorem dX4_vehicle_0 : decode cX4_vehicle 0 = .ok (.iload_n 1, 1) := by decide +kernel
theorem dX4_vehicle_1 : decode cX4_vehicle 1 = .ok (.sipush 500, 3) := by decide +kernel
theorem dX4_vehicle_4 : decode cX4_vehicle 4 = .ok (.ldc 121, 2) := by decide +kernel
theorem dX4_vehicle_6 : decode cX4_vehicle 6 = .ok (.invokestatic 94, 3) := by decide +kernel
theorem dX4_vehicle_9 : decode cX4_vehicle 9 = .ok (.ifCond .eq 28, 3) := by decide +kernel
theorem dX4_vehicle_12 : decode cX4_vehicle 12 = .ok (.iload_n 2, 1) := by decide +kernel
theorem dX4_vehicle_13 : decode cX4_vehicle 13 = .ok (.iconst 0, 1) := by decide +kernel
theorem dX4_vehicle_14 : decode cX4_vehicle 14 = .ok (.ldc 122, 2) := by decide +kernel
theorem dX4_vehicle_16 : decode cX4_vehicle 16 = .ok (.invokestatic 94, 3) := by decide +kernel
theorem dX4_vehicle_19 : decode cX4_vehicle 19 = .ok (.ifCond .eq 18, 3) := by decide +kernel
theorem dX4_vehicle_22 : decode cX4_vehicle 22 = .ok (.iload_n 3, 1) := by decide +kernel
theorem dX4_vehicle_23 : decode cX4_vehicle 23 = .ok (.iconst 1, 1) := by decide +kernel
theorem dX4_vehicle_24 : decode cX4_vehicle 24 = .ok (.sipush 300, 3) := by decide +kernel
theorem dX4_vehicle_27 : decode cX4_vehicle 27 = .ok (.invokestatic 94, 3) := by decide +kernel
theorem dX4_vehicle_30 : decode cX4_vehicle 30 = .ok (.ifCond .eq 7, 3) := by decide +kernel
theorem dX4_vehicle_33 : decode cX4_vehicle 33 = .ok (.iconst 1, 1) := by decide +kernel
theorem dX4_vehicle_34 : decode cX4_vehicle 34 = .ok (.goto 4, 3) := by decide +kernel
theorem dX4_vehicle_37 : decode cX4_vehicle 37 = .ok (.iconst 0, 1) := by decide +kernel
theorem dX4_vehicle_38 : decode cX4_vehicle 38 = .ok (.istore 4, 2) := by decide +kernel
theorem dX4_vehicle_40 : decode cX4_vehicle 40 = .ok (.aload_n 0, 1) := by decide +kernel
theorem dX4_vehicle_41 : decode cX4_vehicle 41 = .ok (.iload 4, 2) := by decide +kernel
theorem dX4_vehicle_43 : decode cX4_vehicle 43 = .ok (.ifCond .ne 7, 3) := by decide +kernel
theorem dX4_vehicle_46 : decode cX4_vehicle 46 = .ok (.iconst 1, 1) := by decide +kernel
theorem dX4_vehicle_47 : decode cX4_vehicle 47 = .ok (.goto 24, 3) := by decide +kernel
theorem dX4_vehicle_50 : decode cX4_vehicle 50 = .ok (.aload_n 0, 1) := by decide +kernel
theorem dX4_vehicle_51 : decode cX4_vehicle 51 = .ok (.getfield 98, 3) := by decide +kernel
theorem dX4_vehicle_54 : decode cX4_vehicle 54 = .ok (.bipush 16, 2) := by decide +kernel
theorem dX4_vehicle_56 : decode cX4_vehicle 56 = .ok (.if_icmp .eq 10, 3) := by decide +kernel
theorem dX4_vehicle_59 : decode cX4_vehicle 59 = .ok (.aload_n 0, 1) := by decide +kernel
theorem dX4_vehicle_60 : decode cX4_vehicle 60 = .ok (.getfield 91, 3) := by decide +kernel
theorem dX4_vehicle_63 : decode cX4_vehicle 63 = .ok (.ifCond .ne 7, 3) := by decide +kernel
theorem dX4_vehicle_66 : decode cX4_vehicle 66 = .ok (.iconst 2, 1) := by decide +kernel
theorem dX4_vehicle_67 : decode cX4_vehicle 67 = .ok (.goto 4, 3) := by decide +kernel
theorem dX4_vehicle_70 : decode cX4_vehicle 70 = .ok (.iconst 0, 1) := by decide +kernel
theorem dX4_vehicle_71 : decode cX4_vehicle 71 = .ok (.invokevirtual 101, 3) := by decide +kernel
theorem dX4_vehicle_74 : decode cX4_vehicle 74 = .ok (.ifCond .eq 5, 3) := by decide +kernel
theorem dX4_vehicle_77 : decode cX4_vehicle 77 = .ok (.iconst 0, 1) := by decide +kernel
theorem dX4_vehicle_78 : decode cX4_vehicle 78 = .ok (.ireturn, 1) := by decide +kernel
theorem dX4_vehicle_79 : decode cX4_vehicle 79 = .ok (.aload_n 0, 1) := by decide +kernel
theorem dX4_vehicle_80 : decode cX4_vehicle 80 = .ok (.getfield 51, 3) := by decide +kernel
theorem dX4_vehicle_83 : decode cX4_vehicle 83 = .ok (.aload_n 0, 1) := by decide +kernel
theorem dX4_vehicle_84 : decode cX4_vehicle 84 = .ok (.getfield 98, 3) := by decide +kernel
theorem dX4_vehicle_87 : decode cX4_vehicle 87 = .ok (.iload_n 1, 1) := by decide +kernel
theorem dX4_vehicle_88 : decode cX4_vehicle 88 = .ok (.iastore, 1) := by decide +kernel
theorem dX4_vehicle_89 : decode cX4_vehicle 89 = .ok (.aload_n 0, 1) := by decide +kernel
theorem dX4_vehicle_90 : decode cX4_vehicle 90 = .ok (.getfield 54, 3) := by decide +kernel
theorem dX4_vehicle_93 : decode cX4_vehicle 93 = .ok (.aload_n 0, 1) := by decide +kernel
theorem dX4_vehicle_94 : decode cX4_vehicle 94 = .ok (.getfield 98, 3) := by decide +kernel
theorem dX4_vehicle_97 : decode cX4_vehicle 97 = .ok (.iload_n 2, 1) := by decide +kernel
theorem dX4_vehicle_98 : decode cX4_vehicle 98 = .ok (.iastore, 1) := by decide +kernel
theorem dX4_vehicle_99 : decode cX4_vehicle 99 = .ok (.aload_n 0, 1) := by decide +kernel
theorem dX4_vehicle_100 : decode cX4_vehicle 100 = .ok (.getfield 57, 3) := by decide +kernel
theorem dX4_vehicle_103 : decode cX4_vehicle 103 = .ok (.aload_n 0, 1) := by decide +kernel
theorem dX4_vehicle_104 : decode cX4_vehicle 104 = .ok (.getfield 98, 3) := by decide +kernel
theorem dX4_vehicle_107 : decode cX4_vehicle 107 = .ok (.iload_n 3, 1) := by decide +kernel
theorem dX4_vehicle_108 : decode cX4_vehicle 108 = .ok (.iastore, 1) := by decide +kernel
theorem dX4_vehicle_109 : decode cX4_vehicle 109 = .ok (.aload_n 0, 1) := by decide +kernel
theorem dX4_vehicle_110 : decode cX4_vehicle 110 = .ok (.getfield 76, 3) := by decide +kernel
theorem dX4_vehicle_113 : decode cX4_vehicle 113 = .ok (.aload_n 0, 1) := by decide +kernel
theorem dX4_vehicle_114 : decode cX4_vehicle 114 = .ok (.getfield 98, 3) := by decide +kernel
theorem dX4_vehicle_117 : decode cX4_vehicle 117 = .ok (.iconst (-1), 1) := by decide +kernel
theorem dX4_vehicle_118 : decode cX4_vehicle 118 = .ok (.iastore, 1) := by decide +kernel
theorem dX4_vehicle_119 : decode cX4_vehicle 119 = .ok (.aload_n 0, 1) := by decide +kernel
theorem dX4_vehicle_120 : decode cX4_vehicle 120 = .ok (.dup, 1) := by decide +kernel
theorem dX4_vehicle_121 : decode cX4_vehicle 121 = .ok (.getfield 98, 3) := by decide +kernel
theorem dX4_vehicle_124 : decode cX4_vehicle 124 = .ok (.iconst 1, 1) := by decide +kernel
theorem dX4_vehicle_125 : decode cX4_vehicle 125 = .ok (.iadd, 1) := by decide +kernel
theorem dX4_vehicle_126 : decode cX4_vehicle 126 = .ok (.putfield 98, 3) := by decide +kernel
theorem dX4_vehicle_129 : decode cX4_vehicle 129 = .ok (.aload_n 0, 1) := by decide +kernel
theorem dX4_vehicle_130 : decode cX4_vehicle 130 = .ok (.getfield 98, 3) := by decide +kernel
theorem dX4_vehicle_133 : decode cX4_vehicle 133 = .ok (.iconst 1, 1) := by decide +kernel
theorem dX4_vehicle_134 : decode cX4_vehicle 134 = .ok (.isub, 1) := by decide +kernel
theorem dX4_vehicle_135 : decode cX4_vehicle 135 = .ok (.ireturn, 1) := by decide +kernel
theorem dX4_weight_0 : decode cX4_weight 0 = .ok (.aload_n 0, 1) := by decide +kernel
theorem dX4_weight_1 : decode cX4_weight 1 = .ok (.getfield 51, 3) := by decide +kernel
theorem dX4_weight_4 : decode cX4_weight 4 = .ok (.iload_n 1, 1) := by decide +kernel
theorem dX4_weight_5 : decode cX4_weight 5 = .ok (.iaload, 1) := by decide +kernel
theorem dX4_weight_6 : decode cX4_weight 6 = .ok (.aload_n 0, 1) := by decide +kernel
theorem dX4_weight_7 : decode cX4_weight 7 = .ok (.getfield 73, 3) := by decide +kernel
theorem dX4_weight_10 : decode cX4_weight 10 = .ok (.iload_n 1, 1) := by decide +kernel
theorem dX4_weight_11 : decode cX4_weight 11 = .ok (.iaload, 1) := by decide +kernel
theorem dX4_weight_12 : decode cX4_weight 12 = .ok (.iadd, 1) := by decide +kernel
theorem dX4_weight_13 : decode cX4_weight 13 = .ok (.ireturn, 1) := by decide +kernel
theorem dX4_load_0 : decode cX4_load 0 = .ok (.aload_n 0, 1) := by decide +kernel
theorem dX4_load_1 : decode cX4_load 1 = .ok (.iload_n 1, 1) := by decide +kernel
theorem dX4_load_2 : decode cX4_load 2 = .ok (.invokevirtual 123, 3) := by decide +kernel
theorem dX4_load_5 : decode cX4_load 5 = .ok (.ifCond .eq 14, 3) := by decide +kernel
theorem dX4_load_8 : decode cX4_load 8 = .ok (.iload_n 2, 1) := by decide +kernel
theorem dX4_load_9 : decode cX4_load 9 = .ok (.invokestatic 126, 3) := by decide +kernel
theorem dX4_load_12 : decode cX4_load 12 = .ok (.ifCond .eq 7, 3) := by decide +kernel
theorem dX4_load_15 : decode cX4_load 15 = .ok (.iconst 1, 1) := by decide +kernel
theorem dX4_load_16 : decode cX4_load 16 = .ok (.goto 4, 3) := by decide +kernel
theorem dX4_load_19 : decode cX4_load 19 = .ok (.iconst 0, 1) := by decide +kernel
theorem dX4_load_20 : decode cX4_load 20 = .ok (.istore 4, 2) := by decide +kernel
theorem dX4_load_22 : decode cX4_load 22 = .ok (.iload 4, 2) := by decide +kernel
theorem dX4_load_24 : decode cX4_load 24 = .ok (.ifCond .eq 21, 3) := by decide +kernel
theorem dX4_load_27 : decode cX4_load 27 = .ok (.iload_n 3, 1) := by decide +kernel
theorem dX4_load_28 : decode cX4_load 28 = .ok (.iconst 1, 1) := by decide +kernel
theorem dX4_load_29 : decode cX4_load 29 = .ok (.aload_n 0, 1) := by decide +kernel
theorem dX4_load_30 : decode cX4_load 30 = .ok (.getfield 54, 3) := by decide +kernel
theorem dX4_load_33 : decode cX4_load 33 = .ok (.iload_n 1, 1) := by decide +kernel
theorem dX4_load_34 : decode cX4_load 34 = .ok (.iaload, 1) := by decide +kernel
theorem dX4_load_35 : decode cX4_load 35 = .ok (.invokestatic 94, 3) := by decide +kernel
theorem dX4_load_38 : decode cX4_load 38 = .ok (.ifCond .eq 7, 3) := by decide +kernel
theorem dX4_load_41 : decode cX4_load 41 = .ok (.iconst 1, 1) := by decide +kernel
theorem dX4_load_42 : decode cX4_load 42 = .ok (.goto 4, 3) := by decide +kernel
theorem dX4_load_45 : decode cX4_load 45 = .ok (.iconst 0, 1) := by decide +kernel
theorem dX4_load_46 : decode cX4_load 46 = .ok (.istore 5, 2) := by decide +kernel
theorem dX4_load_48 : decode cX4_load 48 = .ok (.aload_n 0, 1) := by decide +kernel
theorem dX4_load_49 : decode cX4_load 49 = .ok (.iload 4, 2) := by decide +kernel
theorem dX4_load_51 : decode cX4_load 51 = .ok (.ifCond .ne 7, 3) := by decide +kernel
theorem dX4_load_54 : decode cX4_load 54 = .ok (.iconst 1, 1) := by decide +kernel
theorem dX4_load_55 : decode cX4_load 55 = .ok (.goto 35, 3) := by decide +kernel
theorem dX4_load_58 : decode cX4_load 58 = .ok (.iload 5, 2) := by decide +kernel
theorem dX4_load_60 : decode cX4_load 60 = .ok (.ifCond .ne 7, 3) := by decide +kernel
theorem dX4_load_63 : decode cX4_load 63 = .ok (.iconst 2, 1) := by decide +kernel
theorem dX4_load_64 : decode cX4_load 64 = .ok (.goto 26, 3) := by decide +kernel
theorem dX4_load_67 : decode cX4_load 67 = .ok (.aload_n 0, 1) := by decide +kernel
theorem dX4_load_68 : decode cX4_load 68 = .ok (.getfield 60, 3) := by decide +kernel
theorem dX4_load_71 : decode cX4_load 71 = .ok (.iload_n 1, 1) := by decide +kernel
theorem dX4_load_72 : decode cX4_load 72 = .ok (.iaload, 1) := by decide +kernel
theorem dX4_load_73 : decode cX4_load 73 = .ok (.ifCond .ne 12, 3) := by decide +kernel
theorem dX4_load_76 : decode cX4_load 76 = .ok (.aload_n 0, 1) := by decide +kernel
theorem dX4_load_77 : decode cX4_load 77 = .ok (.getfield 73, 3) := by decide +kernel
theorem dX4_load_80 : decode cX4_load 80 = .ok (.iload_n 1, 1) := by decide +kernel
theorem dX4_load_81 : decode cX4_load 81 = .ok (.iaload, 1) := by decide +kernel
theorem dX4_load_82 : decode cX4_load 82 = .ok (.ifCond .le 7, 3) := by decide +kernel
theorem dX4_load_85 : decode cX4_load 85 = .ok (.iconst 3, 1) := by decide +kernel
theorem dX4_load_86 : decode cX4_load 86 = .ok (.goto 4, 3) := by decide +kernel
theorem dX4_load_89 : decode cX4_load 89 = .ok (.iconst 0, 1) := by decide +kernel
theorem dX4_load_90 : decode cX4_load 90 = .ok (.invokevirtual 101, 3) := by decide +kernel
theorem dX4_load_93 : decode cX4_load 93 = .ok (.ifCond .eq 5, 3) := by decide +kernel
theorem dX4_load_96 : decode cX4_load 96 = .ok (.iconst 0, 1) := by decide +kernel
theorem dX4_load_97 : decode cX4_load 97 = .ok (.ireturn, 1) := by decide +kernel
theorem dX4_load_98 : decode cX4_load 98 = .ok (.aload_n 0, 1) := by decide +kernel
theorem dX4_load_99 : decode cX4_load 99 = .ok (.getfield 73, 3) := by decide +kernel
theorem dX4_load_102 : decode cX4_load 102 = .ok (.iload_n 1, 1) := by decide +kernel
theorem dX4_load_103 : decode cX4_load 103 = .ok (.iload_n 3, 1) := by decide +kernel
theorem dX4_load_104 : decode cX4_load 104 = .ok (.iastore, 1) := by decide +kernel
theorem dX4_load_105 : decode cX4_load 105 = .ok (.aload_n 0, 1) := by decide +kernel
theorem dX4_load_106 : decode cX4_load 106 = .ok (.getfield 76, 3) := by decide +kernel
theorem dX4_load_109 : decode cX4_load 109 = .ok (.iload_n 1, 1) := by decide +kernel
theorem dX4_load_110 : decode cX4_load 110 = .ok (.iload_n 2, 1) := by decide +kernel
theorem dX4_load_111 : decode cX4_load 111 = .ok (.iastore, 1) := by decide +kernel
theorem dX4_load_112 : decode cX4_load 112 = .ok (.aload_n 0, 1) := by decide +kernel
theorem dX4_load_113 : decode cX4_load 113 = .ok (.getfield 79, 3) := by decide +kernel
theorem dX4_load_116 : decode cX4_load 116 = .ok (.iload_n 2, 1) := by decide +kernel
theorem dX4_load_117 : decode cX4_load 117 = .ok (.dup2, 1) := by decide +kernel
theorem dX4_load_118 : decode cX4_load 118 = .ok (.iaload, 1) := by decide +kernel
theorem dX4_load_119 : decode cX4_load 119 = .ok (.iload_n 3, 1) := by decide +kernel
theorem dX4_load_120 : decode cX4_load 120 = .ok (.iadd, 1) := by decide +kernel
theorem dX4_load_121 : decode cX4_load 121 = .ok (.iastore, 1) := by decide +kernel
theorem dX4_load_122 : decode cX4_load 122 = .ok (.aload_n 0, 1) := by decide +kernel
theorem dX4_load_123 : decode cX4_load 123 = .ok (.iload_n 1, 1) := by decide +kernel
theorem dX4_load_124 : decode cX4_load 124 = .ok (.invokevirtual 129, 3) := by decide +kernel
theorem dX4_load_127 : decode cX4_load 127 = .ok (.ireturn, 1) := by decide +kernel
theorem dX4_unloads_0 : decode cX4_unloads 0 = .ok (.aload_n 0, 1) := by decide +kernel
theorem dX4_unloads_1 : decode cX4_unloads 1 = .ok (.getfield 73, 3) := by decide +kernel
theorem dX4_unloads_4 : decode cX4_unloads 4 = .ok (.iload_n 1, 1) := by decide +kernel
theorem dX4_unloads_5 : decode cX4_unloads 5 = .ok (.iaload, 1) := by decide +kernel
theorem dX4_unloads_6 : decode cX4_unloads 6 = .ok (.ifCond .le 59, 3) := by decide +kernel
theorem dX4_unloads_9 : decode cX4_unloads 9 = .ok (.aload_n 0, 1) := by decide +kernel
theorem dX4_unloads_10 : decode cX4_unloads 10 = .ok (.getfield 82, 3) := by decide +kernel
theorem dX4_unloads_13 : decode cX4_unloads 13 = .ok (.aload_n 0, 1) := by decide +kernel
theorem dX4_unloads_14 : decode cX4_unloads 14 = .ok (.getfield 76, 3) := by decide +kernel
theorem dX4_unloads_17 : decode cX4_unloads 17 = .ok (.iload_n 1, 1) := by decide +kernel
theorem dX4_unloads_18 : decode cX4_unloads 18 = .ok (.iaload, 1) := by decide +kernel
theorem dX4_unloads_19 : decode cX4_unloads 19 = .ok (.dup2, 1) := by decide +kernel
theorem dX4_unloads_20 : decode cX4_unloads 20 = .ok (.iaload, 1) := by decide +kernel
theorem dX4_unloads_21 : decode cX4_unloads 21 = .ok (.iload_n 2, 1) := by decide +kernel
theorem dX4_unloads_22 : decode cX4_unloads 22 = .ok (.ifCond .eq 12, 3) := by decide +kernel
theorem dX4_unloads_25 : decode cX4_unloads 25 = .ok (.aload_n 0, 1) := by decide +kernel
theorem dX4_unloads_26 : decode cX4_unloads 26 = .ok (.getfield 73, 3) := by decide +kernel
theorem dX4_unloads_29 : decode cX4_unloads 29 = .ok (.iload_n 1, 1) := by decide +kernel
theorem dX4_unloads_30 : decode cX4_unloads 30 = .ok (.iaload, 1) := by decide +kernel
theorem dX4_unloads_31 : decode cX4_unloads 31 = .ok (.goto 4, 3) := by decide +kernel
theorem dX4_unloads_34 : decode cX4_unloads 34 = .ok (.iconst 0, 1) := by decide +kernel
theorem dX4_unloads_35 : decode cX4_unloads 35 = .ok (.iadd, 1) := by decide +kernel
theorem dX4_unloads_36 : decode cX4_unloads 36 = .ok (.iastore, 1) := by decide +kernel
theorem dX4_unloads_37 : decode cX4_unloads 37 = .ok (.aload_n 0, 1) := by decide +kernel
theorem dX4_unloads_38 : decode cX4_unloads 38 = .ok (.getfield 79, 3) := by decide +kernel
theorem dX4_unloads_41 : decode cX4_unloads 41 = .ok (.aload_n 0, 1) := by decide +kernel
theorem dX4_unloads_42 : decode cX4_unloads 42 = .ok (.getfield 76, 3) := by decide +kernel
theorem dX4_unloads_45 : decode cX4_unloads 45 = .ok (.iload_n 1, 1) := by decide +kernel
theorem dX4_unloads_46 : decode cX4_unloads 46 = .ok (.iaload, 1) := by decide +kernel
theorem dX4_unloads_47 : decode cX4_unloads 47 = .ok (.dup2, 1) := by decide +kernel
theorem dX4_unloads_48 : decode cX4_unloads 48 = .ok (.iaload, 1) := by decide +kernel
theorem dX4_unloads_49 : decode cX4_unloads 49 = .ok (.iload_n 2, 1) := by decide +kernel
theorem dX4_unloads_50 : decode cX4_unloads 50 = .ok (.ifCond .eq 7, 3) := by decide +kernel
theorem dX4_unloads_53 : decode cX4_unloads 53 = .ok (.iconst 0, 1) := by decide +kernel
theorem dX4_unloads_54 : decode cX4_unloads 54 = .ok (.goto 9, 3) := by decide +kernel
theorem dX4_unloads_57 : decode cX4_unloads 57 = .ok (.aload_n 0, 1) := by decide +kernel
theorem dX4_unloads_58 : decode cX4_unloads 58 = .ok (.getfield 73, 3) := by decide +kernel
theorem dX4_unloads_61 : decode cX4_unloads 61 = .ok (.iload_n 1, 1) := by decide +kernel
theorem dX4_unloads_62 : decode cX4_unloads 62 = .ok (.iaload, 1) := by decide +kernel
theorem dX4_unloads_63 : decode cX4_unloads 63 = .ok (.isub, 1) := by decide +kernel
theorem dX4_unloads_64 : decode cX4_unloads 64 = .ok (.iastore, 1) := by decide +kernel
theorem dX4_unloads_65 : decode cX4_unloads 65 = .ok (.aload_n 0, 1) := by decide +kernel
theorem dX4_unloads_66 : decode cX4_unloads 66 = .ok (.getfield 73, 3) := by decide +kernel
theorem dX4_unloads_69 : decode cX4_unloads 69 = .ok (.iload_n 1, 1) := by decide +kernel
theorem dX4_unloads_70 : decode cX4_unloads 70 = .ok (.iconst 0, 1) := by decide +kernel
theorem dX4_unloads_71 : decode cX4_unloads 71 = .ok (.iastore, 1) := by decide +kernel
theorem dX4_unloads_72 : decode cX4_unloads 72 = .ok (.aload_n 0, 1) := by decide +kernel
theorem dX4_unloads_73 : decode cX4_unloads 73 = .ok (.getfield 76, 3) := by decide +kernel
theorem dX4_unloads_76 : decode cX4_unloads 76 = .ok (.iload_n 1, 1) := by decide +kernel
theorem dX4_unloads_77 : decode cX4_unloads 77 = .ok (.iconst (-1), 1) := by decide +kernel
theorem dX4_unloads_78 : decode cX4_unloads 78 = .ok (.iastore, 1) := by decide +kernel
theorem dX4_unloads_79 : decode cX4_unloads 79 = .ok (.return_, 1) := by decide +kernel
theorem dX4_go_0 : decode cX4_go 0 = .ok (.aload_n 0, 1) := by decide +kernel
theorem dX4_go_1 : decode cX4_go 1 = .ok (.iload_n 1, 1) := by decide +kernel
theorem dX4_go_2 : decode cX4_go 2 = .ok (.invokevirtual 123, 3) := by decide +kernel
theorem dX4_go_5 : decode cX4_go 5 = .ok (.ifCond .eq 26, 3) := by decide +kernel
theorem dX4_go_8 : decode cX4_go 8 = .ok (.aload_n 0, 1) := by decide +kernel
theorem dX4_go_9 : decode cX4_go 9 = .ok (.getfield 60, 3) := by decide +kernel
theorem dX4_go_12 : decode cX4_go 12 = .ok (.iload_n 1, 1) := by decide +kernel
theorem dX4_go_13 : decode cX4_go 13 = .ok (.iaload, 1) := by decide +kernel
theorem dX4_go_14 : decode cX4_go 14 = .ok (.ifCond .eq 13, 3) := by decide +kernel
theorem dX4_go_17 : decode cX4_go 17 = .ok (.aload_n 0, 1) := by decide +kernel
theorem dX4_go_18 : decode cX4_go 18 = .ok (.getfield 60, 3) := by decide +kernel
theorem dX4_go_21 : decode cX4_go 21 = .ok (.iload_n 1, 1) := by decide +kernel
theorem dX4_go_22 : decode cX4_go 22 = .ok (.iaload, 1) := by decide +kernel
theorem dX4_go_23 : decode cX4_go 23 = .ok (.iconst 3, 1) := by decide +kernel
theorem dX4_go_24 : decode cX4_go 24 = .ok (.if_icmp .ne 7, 3) := by decide +kernel
theorem dX4_go_27 : decode cX4_go 27 = .ok (.iconst 1, 1) := by decide +kernel
theorem dX4_go_28 : decode cX4_go 28 = .ok (.goto 4, 3) := by decide +kernel
theorem dX4_go_31 : decode cX4_go 31 = .ok (.iconst 0, 1) := by decide +kernel
theorem dX4_go_32 : decode cX4_go 32 = .ok (.istore_n 2, 1) := by decide +kernel
theorem dX4_go_33 : decode cX4_go 33 = .ok (.aload_n 0, 1) := by decide +kernel
theorem dX4_go_34 : decode cX4_go 34 = .ok (.aload_n 0, 1) := by decide +kernel
theorem dX4_go_35 : decode cX4_go 35 = .ok (.iload_n 1, 1) := by decide +kernel
theorem dX4_go_36 : decode cX4_go 36 = .ok (.invokevirtual 123, 3) := by decide +kernel
theorem dX4_go_39 : decode cX4_go 39 = .ok (.ifCond .ne 7, 3) := by decide +kernel
theorem dX4_go_42 : decode cX4_go 42 = .ok (.iconst 1, 1) := by decide +kernel
theorem dX4_go_43 : decode cX4_go 43 = .ok (.goto 12, 3) := by decide +kernel
theorem dX4_go_46 : decode cX4_go 46 = .ok (.iload_n 2, 1) := by decide +kernel
theorem dX4_go_47 : decode cX4_go 47 = .ok (.ifCond .eq 7, 3) := by decide +kernel
theorem dX4_go_50 : decode cX4_go 50 = .ok (.iconst 0, 1) := by decide +kernel
theorem dX4_go_51 : decode cX4_go 51 = .ok (.goto 4, 3) := by decide +kernel
theorem dX4_go_54 : decode cX4_go 54 = .ok (.iconst 2, 1) := by decide +kernel
theorem dX4_go_55 : decode cX4_go 55 = .ok (.invokevirtual 101, 3) := by decide +kernel
theorem dX4_go_58 : decode cX4_go 58 = .ok (.ifCond .eq 5, 3) := by decide +kernel
theorem dX4_go_61 : decode cX4_go 61 = .ok (.iconst 0, 1) := by decide +kernel
theorem dX4_go_62 : decode cX4_go 62 = .ok (.ireturn, 1) := by decide +kernel
theorem dX4_go_63 : decode cX4_go 63 = .ok (.aload_n 0, 1) := by decide +kernel
theorem dX4_go_64 : decode cX4_go 64 = .ok (.getfield 66, 3) := by decide +kernel
theorem dX4_go_67 : decode cX4_go 67 = .ok (.iload_n 1, 1) := by decide +kernel
theorem dX4_go_68 : decode cX4_go 68 = .ok (.aload_n 0, 1) := by decide +kernel
theorem dX4_go_69 : decode cX4_go 69 = .ok (.getfield 60, 3) := by decide +kernel
theorem dX4_go_72 : decode cX4_go 72 = .ok (.iload_n 1, 1) := by decide +kernel
theorem dX4_go_73 : decode cX4_go 73 = .ok (.iaload, 1) := by decide +kernel
theorem dX4_go_74 : decode cX4_go 74 = .ok (.ifCond .ne 7, 3) := by decide +kernel
theorem dX4_go_77 : decode cX4_go 77 = .ok (.iconst 1, 1) := by decide +kernel
theorem dX4_go_78 : decode cX4_go 78 = .ok (.goto 4, 3) := by decide +kernel
theorem dX4_go_81 : decode cX4_go 81 = .ok (.iconst 0, 1) := by decide +kernel
theorem dX4_go_82 : decode cX4_go 82 = .ok (.bastore, 1) := by decide +kernel
theorem dX4_go_83 : decode cX4_go 83 = .ok (.aload_n 0, 1) := by decide +kernel
theorem dX4_go_84 : decode cX4_go 84 = .ok (.getfield 60, 3) := by decide +kernel
theorem dX4_go_87 : decode cX4_go 87 = .ok (.iload_n 1, 1) := by decide +kernel
theorem dX4_go_88 : decode cX4_go 88 = .ok (.iconst 2, 1) := by decide +kernel
theorem dX4_go_89 : decode cX4_go 89 = .ok (.iastore, 1) := by decide +kernel
theorem dX4_go_90 : decode cX4_go 90 = .ok (.aload_n 0, 1) := by decide +kernel
theorem dX4_go_91 : decode cX4_go 91 = .ok (.getfield 66, 3) := by decide +kernel
theorem dX4_go_94 : decode cX4_go 94 = .ok (.iload_n 1, 1) := by decide +kernel
theorem dX4_go_95 : decode cX4_go 95 = .ok (.baload, 1) := by decide +kernel
theorem dX4_go_96 : decode cX4_go 96 = .ok (.ireturn, 1) := by decide +kernel
theorem dX4_isThere_0 : decode cX4_isThere 0 = .ok (.aload_n 0, 1) := by decide +kernel
theorem dX4_isThere_1 : decode cX4_isThere 1 = .ok (.getfield 63, 3) := by decide +kernel
theorem dX4_isThere_4 : decode cX4_isThere 4 = .ok (.iload_n 1, 1) := by decide +kernel
theorem dX4_isThere_5 : decode cX4_isThere 5 = .ok (.iaload, 1) := by decide +kernel
theorem dX4_isThere_6 : decode cX4_isThere 6 = .ok (.aload_n 0, 1) := by decide +kernel
theorem dX4_isThere_7 : decode cX4_isThere 7 = .ok (.getfield 66, 3) := by decide +kernel
theorem dX4_isThere_10 : decode cX4_isThere 10 = .ok (.iload_n 1, 1) := by decide +kernel
theorem dX4_isThere_11 : decode cX4_isThere 11 = .ok (.baload, 1) := by decide +kernel
theorem dX4_isThere_12 : decode cX4_isThere 12 = .ok (.ifCond .eq 10, 3) := by decide +kernel
theorem dX4_isThere_15 : decode cX4_isThere 15 = .ok (.aload_n 0, 1) := by decide +kernel
theorem dX4_isThere_16 : decode cX4_isThere 16 = .ok (.getfield 91, 3) := by decide +kernel
theorem dX4_isThere_19 : decode cX4_isThere 19 = .ok (.goto 4, 3) := by decide +kernel
theorem dX4_isThere_22 : decode cX4_isThere 22 = .ok (.iconst 0, 1) := by decide +kernel
theorem dX4_isThere_23 : decode cX4_isThere 23 = .ok (.if_icmp .ne 7, 3) := by decide +kernel
theorem dX4_isThere_26 : decode cX4_isThere 26 = .ok (.iconst 1, 1) := by decide +kernel
theorem dX4_isThere_27 : decode cX4_isThere 27 = .ok (.goto 4, 3) := by decide +kernel
theorem dX4_isThere_30 : decode cX4_isThere 30 = .ok (.iconst 0, 1) := by decide +kernel
theorem dX4_isThere_31 : decode cX4_isThere 31 = .ok (.ireturn, 1) := by decide +kernel
theorem dX4_arrives_0 : decode cX4_arrives 0 = .ok (.aload_n 0, 1) := by decide +kernel
theorem dX4_arrives_1 : decode cX4_arrives 1 = .ok (.getfield 60, 3) := by decide +kernel
theorem dX4_arrives_4 : decode cX4_arrives 4 = .ok (.iload_n 1, 1) := by decide +kernel
theorem dX4_arrives_5 : decode cX4_arrives 5 = .ok (.aload_n 0, 1) := by decide +kernel
theorem dX4_arrives_6 : decode cX4_arrives 6 = .ok (.getfield 66, 3) := by decide +kernel
theorem dX4_arrives_9 : decode cX4_arrives 9 = .ok (.iload_n 1, 1) := by decide +kernel
theorem dX4_arrives_10 : decode cX4_arrives 10 = .ok (.baload, 1) := by decide +kernel
theorem dX4_arrives_11 : decode cX4_arrives 11 = .ok (.ifCond .eq 7, 3) := by decide +kernel
theorem dX4_arrives_14 : decode cX4_arrives 14 = .ok (.iconst 3, 1) := by decide +kernel
theorem dX4_arrives_15 : decode cX4_arrives 15 = .ok (.goto 4, 3) := by decide +kernel
theorem dX4_arrives_18 : decode cX4_arrives 18 = .ok (.iconst 0, 1) := by decide +kernel
theorem dX4_arrives_19 : decode cX4_arrives 19 = .ok (.iastore, 1) := by decide +kernel
theorem dX4_arrives_20 : decode cX4_arrives 20 = .ok (.aload_n 0, 1) := by decide +kernel
theorem dX4_arrives_21 : decode cX4_arrives 21 = .ok (.iload_n 1, 1) := by decide +kernel
theorem dX4_arrives_22 : decode cX4_arrives 22 = .ok (.aload_n 0, 1) := by decide +kernel
theorem dX4_arrives_23 : decode cX4_arrives 23 = .ok (.getfield 66, 3) := by decide +kernel
theorem dX4_arrives_26 : decode cX4_arrives 26 = .ok (.iload_n 1, 1) := by decide +kernel
theorem dX4_arrives_27 : decode cX4_arrives 27 = .ok (.baload, 1) := by decide +kernel
theorem dX4_arrives_28 : decode cX4_arrives 28 = .ok (.invokevirtual 133, 3) := by decide +kernel
theorem dX4_arrives_31 : decode cX4_arrives 31 = .ok (.return_, 1) := by decide +kernel
theorem dX4_turn_0 : decode cX4_turn 0 = .ok (.aload_n 0, 1) := by decide +kernel
theorem dX4_turn_1 : decode cX4_turn 1 = .ok (.aload_n 0, 1) := by decide +kernel
theorem dX4_turn_2 : decode cX4_turn 2 = .ok (.iload_n 1, 1) := by decide +kernel
theorem dX4_turn_3 : decode cX4_turn 3 = .ok (.invokevirtual 123, 3) := by decide +kernel
theorem dX4_turn_6 : decode cX4_turn 6 = .ok (.ifCond .ne 7, 3) := by decide +kernel
theorem dX4_turn_9 : decode cX4_turn 9 = .ok (.iconst 1, 1) := by decide +kernel
theorem dX4_turn_10 : decode cX4_turn 10 = .ok (.goto 18, 3) := by decide +kernel
theorem dX4_turn_13 : decode cX4_turn 13 = .ok (.aload_n 0, 1) := by decide +kernel
theorem dX4_turn_14 : decode cX4_turn 14 = .ok (.getfield 60, 3) := by decide +kernel
theorem dX4_turn_17 : decode cX4_turn 17 = .ok (.iload_n 1, 1) := by decide +kernel
theorem dX4_turn_18 : decode cX4_turn 18 = .ok (.iaload, 1) := by decide +kernel
theorem dX4_turn_19 : decode cX4_turn 19 = .ok (.iconst 2, 1) := by decide +kernel
theorem dX4_turn_20 : decode cX4_turn 20 = .ok (.if_icmp .ne 7, 3) := by decide +kernel
theorem dX4_turn_23 : decode cX4_turn 23 = .ok (.iconst 0, 1) := by decide +kernel
theorem dX4_turn_24 : decode cX4_turn 24 = .ok (.goto 4, 3) := by decide +kernel
theorem dX4_turn_27 : decode cX4_turn 27 = .ok (.iconst 2, 1) := by decide +kernel
theorem dX4_turn_28 : decode cX4_turn 28 = .ok (.invokevirtual 101, 3) := by decide +kernel
theorem dX4_turn_31 : decode cX4_turn 31 = .ok (.ifCond .eq 5, 3) := by decide +kernel
theorem dX4_turn_34 : decode cX4_turn 34 = .ok (.iconst 0, 1) := by decide +kernel
theorem dX4_turn_35 : decode cX4_turn 35 = .ok (.ireturn, 1) := by decide +kernel
theorem dX4_turn_36 : decode cX4_turn 36 = .ok (.aload_n 0, 1) := by decide +kernel
theorem dX4_turn_37 : decode cX4_turn 37 = .ok (.getfield 66, 3) := by decide +kernel
theorem dX4_turn_40 : decode cX4_turn 40 = .ok (.iload_n 1, 1) := by decide +kernel
theorem dX4_turn_41 : decode cX4_turn 41 = .ok (.aload_n 0, 1) := by decide +kernel
theorem dX4_turn_42 : decode cX4_turn 42 = .ok (.getfield 66, 3) := by decide +kernel
theorem dX4_turn_45 : decode cX4_turn 45 = .ok (.iload_n 1, 1) := by decide +kernel
theorem dX4_turn_46 : decode cX4_turn 46 = .ok (.baload, 1) := by decide +kernel
theorem dX4_turn_47 : decode cX4_turn 47 = .ok (.ifCond .ne 7, 3) := by decide +kernel
theorem dX4_turn_50 : decode cX4_turn 50 = .ok (.iconst 1, 1) := by decide +kernel
theorem dX4_turn_51 : decode cX4_turn 51 = .ok (.goto 4, 3) := by decide +kernel
theorem dX4_turn_54 : decode cX4_turn 54 = .ok (.iconst 0, 1) := by decide +kernel
theorem dX4_turn_55 : decode cX4_turn 55 = .ok (.bastore, 1) := by decide +kernel
theorem dX4_turn_56 : decode cX4_turn 56 = .ok (.aload_n 0, 1) := by decide +kernel
theorem dX4_turn_57 : decode cX4_turn 57 = .ok (.iload_n 1, 1) := by decide +kernel
theorem dX4_turn_58 : decode cX4_turn 58 = .ok (.invokevirtual 137, 3) := by decide +kernel
theorem dX4_turn_61 : decode cX4_turn 61 = .ok (.ifCond .eq 8, 3) := by decide +kernel
theorem dX4_turn_64 : decode cX4_turn 64 = .ok (.aload_n 0, 1) := by decide +kernel
theorem dX4_turn_65 : decode cX4_turn 65 = .ok (.iload_n 1, 1) := by decide +kernel
theorem dX4_turn_66 : decode cX4_turn 66 = .ok (.invokevirtual 140, 3) := by decide +kernel
theorem dX4_turn_69 : decode cX4_turn 69 = .ok (.aload_n 0, 1) := by decide +kernel
theorem dX4_turn_70 : decode cX4_turn 70 = .ok (.getfield 66, 3) := by decide +kernel
theorem dX4_turn_73 : decode cX4_turn 73 = .ok (.iload_n 1, 1) := by decide +kernel
theorem dX4_turn_74 : decode cX4_turn 74 = .ok (.baload, 1) := by decide +kernel
theorem dX4_turn_75 : decode cX4_turn 75 = .ok (.ireturn, 1) := by decide +kernel
theorem dX4_order_0 : decode cX4_order 0 = .ok (.iload_n 2, 1) := by decide +kernel
theorem dX4_order_1 : decode cX4_order 1 = .ok (.iconst 1, 1) := by decide +kernel
theorem dX4_order_2 : decode cX4_order 2 = .ok (.ldc 144, 2) := by decide +kernel
theorem dX4_order_4 : decode cX4_order 4 = .ok (.invokestatic 94, 3) := by decide +kernel
theorem dX4_order_7 : decode cX4_order 7 = .ok (.istore_n 3, 1) := by decide +kernel
theorem dX4_order_8 : decode cX4_order 8 = .ok (.aload_n 0, 1) := by decide +kernel
theorem dX4_order_9 : decode cX4_order 9 = .ok (.iload_n 1, 1) := by decide +kernel
theorem dX4_order_10 : decode cX4_order 10 = .ok (.invokestatic 126, 3) := by decide +kernel
theorem dX4_order_13 : decode cX4_order 13 = .ok (.ifCond .ne 7, 3) := by decide +kernel
theorem dX4_order_16 : decode cX4_order 16 = .ok (.iconst 1, 1) := by decide +kernel
theorem dX4_order_17 : decode cX4_order 17 = .ok (.goto 29, 3) := by decide +kernel
theorem dX4_order_20 : decode cX4_order 20 = .ok (.iload_n 3, 1) := by decide +kernel
theorem dX4_order_21 : decode cX4_order 21 = .ok (.ifCond .ne 7, 3) := by decide +kernel
theorem dX4_order_24 : decode cX4_order 24 = .ok (.iconst 2, 1) := by decide +kernel
theorem dX4_order_25 : decode cX4_order 25 = .ok (.goto 21, 3) := by decide +kernel
theorem dX4_order_28 : decode cX4_order 28 = .ok (.aload_n 0, 1) := by decide +kernel
theorem dX4_order_29 : decode cX4_order 29 = .ok (.getfield 85, 3) := by decide +kernel
theorem dX4_order_32 : decode cX4_order 32 = .ok (.iload_n 1, 1) := by decide +kernel
theorem dX4_order_33 : decode cX4_order 33 = .ok (.iaload, 1) := by decide +kernel
theorem dX4_order_34 : decode cX4_order 34 = .ok (.iload_n 2, 1) := by decide +kernel
theorem dX4_order_35 : decode cX4_order 35 = .ok (.iadd, 1) := by decide +kernel
theorem dX4_order_36 : decode cX4_order 36 = .ok (.ldc 145, 2) := by decide +kernel
theorem dX4_order_38 : decode cX4_order 38 = .ok (.if_icmp .le 7, 3) := by decide +kernel
theorem dX4_order_41 : decode cX4_order 41 = .ok (.iconst 3, 1) := by decide +kernel
theorem dX4_order_42 : decode cX4_order 42 = .ok (.goto 4, 3) := by decide +kernel
theorem dX4_order_45 : decode cX4_order 45 = .ok (.iconst 0, 1) := by decide +kernel
theorem dX4_order_46 : decode cX4_order 46 = .ok (.invokevirtual 101, 3) := by decide +kernel
theorem dX4_order_49 : decode cX4_order 49 = .ok (.ifCond .eq 5, 3) := by decide +kernel
theorem dX4_order_52 : decode cX4_order 52 = .ok (.iconst 0, 1) := by decide +kernel
theorem dX4_order_53 : decode cX4_order 53 = .ok (.ireturn, 1) := by decide +kernel
theorem dX4_order_54 : decode cX4_order 54 = .ok (.aload_n 0, 1) := by decide +kernel
theorem dX4_order_55 : decode cX4_order 55 = .ok (.getfield 85, 3) := by decide +kernel
theorem dX4_order_58 : decode cX4_order 58 = .ok (.iload_n 1, 1) := by decide +kernel
theorem dX4_order_59 : decode cX4_order 59 = .ok (.dup2, 1) := by decide +kernel
theorem dX4_order_60 : decode cX4_order 60 = .ok (.iaload, 1) := by decide +kernel
theorem dX4_order_61 : decode cX4_order 61 = .ok (.iload_n 2, 1) := by decide +kernel
theorem dX4_order_62 : decode cX4_order 62 = .ok (.iadd, 1) := by decide +kernel
theorem dX4_order_63 : decode cX4_order 63 = .ok (.iastore, 1) := by decide +kernel
theorem dX4_order_64 : decode cX4_order 64 = .ok (.aload_n 0, 1) := by decide +kernel
theorem dX4_order_65 : decode cX4_order 65 = .ok (.getfield 85, 3) := by decide +kernel
theorem dX4_order_68 : decode cX4_order 68 = .ok (.iload_n 1, 1) := by decide +kernel
theorem dX4_order_69 : decode cX4_order 69 = .ok (.iaload, 1) := by decide +kernel
theorem dX4_order_70 : decode cX4_order 70 = .ok (.ireturn, 1) := by decide +kernel
theorem dX4_freezes_0 : decode cX4_freezes 0 = .ok (.iconst 2, 1) := by decide +kernel
theorem dX4_freezes_1 : decode cX4_freezes 1 = .ok (.aload_n 0, 1) := by decide +kernel
theorem dX4_freezes_2 : decode cX4_freezes 2 = .ok (.getfield 106, 3) := by decide +kernel
theorem dX4_freezes_5 : decode cX4_freezes 5 = .ok (.imul, 1) := by decide +kernel
theorem dX4_freezes_6 : decode cX4_freezes 6 = .ok (.aload_n 0, 1) := by decide +kernel
theorem dX4_freezes_7 : decode cX4_freezes 7 = .ok (.getfield 29, 3) := by decide +kernel
theorem dX4_freezes_10 : decode cX4_freezes 10 = .ok (.iload_n 1, 1) := by decide +kernel
theorem dX4_freezes_11 : decode cX4_freezes 11 = .ok (.iaload, 1) := by decide +kernel
theorem dX4_freezes_12 : decode cX4_freezes 12 = .ok (.if_icmp .ge 12, 3) := by decide +kernel
theorem dX4_freezes_15 : decode cX4_freezes 15 = .ok (.iconst 2, 1) := by decide +kernel
theorem dX4_freezes_16 : decode cX4_freezes 16 = .ok (.aload_n 0, 1) := by decide +kernel
theorem dX4_freezes_17 : decode cX4_freezes 17 = .ok (.getfield 106, 3) := by decide +kernel
theorem dX4_freezes_20 : decode cX4_freezes 20 = .ok (.imul, 1) := by decide +kernel
theorem dX4_freezes_21 : decode cX4_freezes 21 = .ok (.goto 9, 3) := by decide +kernel
theorem dX4_freezes_24 : decode cX4_freezes 24 = .ok (.aload_n 0, 1) := by decide +kernel
theorem dX4_freezes_25 : decode cX4_freezes 25 = .ok (.getfield 29, 3) := by decide +kernel
theorem dX4_freezes_28 : decode cX4_freezes 28 = .ok (.iload_n 1, 1) := by decide +kernel
theorem dX4_freezes_29 : decode cX4_freezes 29 = .ok (.iaload, 1) := by decide +kernel
theorem dX4_freezes_30 : decode cX4_freezes 30 = .ok (.istore_n 2, 1) := by decide +kernel
theorem dX4_freezes_31 : decode cX4_freezes 31 = .ok (.aload_n 0, 1) := by decide +kernel
theorem dX4_freezes_32 : decode cX4_freezes 32 = .ok (.getfield 29, 3) := by decide +kernel
theorem dX4_freezes_35 : decode cX4_freezes 35 = .ok (.iload_n 1, 1) := by decide +kernel
theorem dX4_freezes_36 : decode cX4_freezes 36 = .ok (.dup2, 1) := by decide +kernel
theorem dX4_freezes_37 : decode cX4_freezes 37 = .ok (.iaload, 1) := by decide +kernel
theorem dX4_freezes_38 : decode cX4_freezes 38 = .ok (.iload_n 2, 1) := by decide +kernel
theorem dX4_freezes_39 : decode cX4_freezes 39 = .ok (.isub, 1) := by decide +kernel
theorem dX4_freezes_40 : decode cX4_freezes 40 = .ok (.iastore, 1) := by decide +kernel
theorem dX4_freezes_41 : decode cX4_freezes 41 = .ok (.aload_n 0, 1) := by decide +kernel
theorem dX4_freezes_42 : decode cX4_freezes 42 = .ok (.getfield 26, 3) := by decide +kernel
theorem dX4_freezes_45 : decode cX4_freezes 45 = .ok (.iload_n 1, 1) := by decide +kernel
theorem dX4_freezes_46 : decode cX4_freezes 46 = .ok (.dup2, 1) := by decide +kernel
theorem dX4_freezes_47 : decode cX4_freezes 47 = .ok (.iaload, 1) := by decide +kernel
theorem dX4_freezes_48 : decode cX4_freezes 48 = .ok (.iload_n 2, 1) := by decide +kernel
theorem dX4_freezes_49 : decode cX4_freezes 49 = .ok (.iadd, 1) := by decide +kernel
theorem dX4_freezes_50 : decode cX4_freezes 50 = .ok (.iastore, 1) := by decide +kernel
theorem dX4_freezes_51 : decode cX4_freezes 51 = .ok (.aload_n 0, 1) := by decide +kernel
theorem dX4_freezes_52 : decode cX4_freezes 52 = .ok (.getfield 29, 3) := by decide +kernel
theorem dX4_freezes_55 : decode cX4_freezes 55 = .ok (.iload_n 1, 1) := by decide +kernel
theorem dX4_freezes_56 : decode cX4_freezes 56 = .ok (.iaload, 1) := by decide +kernel
theorem dX4_freezes_57 : decode cX4_freezes 57 = .ok (.ifCond .ne 74, 3) := by decide +kernel
theorem dX4_freezes_60 : decode cX4_freezes 60 = .ok (.sipush 400, 3) := by decide +kernel
theorem dX4_freezes_63 : decode cX4_freezes 63 = .ok (.aload_n 0, 1) := by decide +kernel
theorem dX4_freezes_64 : decode cX4_freezes 64 = .ok (.getfield 106, 3) := by decide +kernel
theorem dX4_freezes_67 : decode cX4_freezes 67 = .ok (.imul, 1) := by decide +kernel
theorem dX4_freezes_68 : decode cX4_freezes 68 = .ok (.aload_n 0, 1) := by decide +kernel
theorem dX4_freezes_69 : decode cX4_freezes 69 = .ok (.getfield 23, 3) := by decide +kernel
theorem dX4_freezes_72 : decode cX4_freezes 72 = .ok (.iload_n 1, 1) := by decide +kernel
theorem dX4_freezes_73 : decode cX4_freezes 73 = .ok (.iaload, 1) := by decide +kernel
theorem dX4_freezes_74 : decode cX4_freezes 74 = .ok (.aload_n 0, 1) := by decide +kernel
theorem dX4_freezes_75 : decode cX4_freezes 75 = .ok (.getfield 26, 3) := by decide +kernel
theorem dX4_freezes_78 : decode cX4_freezes 78 = .ok (.iload_n 1, 1) := by decide +kernel
theorem dX4_freezes_79 : decode cX4_freezes 79 = .ok (.iaload, 1) := by decide +kernel
theorem dX4_freezes_80 : decode cX4_freezes 80 = .ok (.iadd, 1) := by decide +kernel
theorem dX4_freezes_81 : decode cX4_freezes 81 = .ok (.iconst 4, 1) := by decide +kernel
theorem dX4_freezes_82 : decode cX4_freezes 82 = .ok (.aload_n 0, 1) := by decide +kernel
theorem dX4_freezes_83 : decode cX4_freezes 83 = .ok (.getfield 32, 3) := by decide +kernel
theorem dX4_freezes_86 : decode cX4_freezes 86 = .ok (.iload_n 1, 1) := by decide +kernel
theorem dX4_freezes_87 : decode cX4_freezes 87 = .ok (.iaload, 1) := by decide +kernel
theorem dX4_freezes_88 : decode cX4_freezes 88 = .ok (.imul, 1) := by decide +kernel
theorem dX4_freezes_89 : decode cX4_freezes 89 = .ok (.iadd, 1) := by decide +kernel
theorem dX4_freezes_90 : decode cX4_freezes 90 = .ok (.bipush 50, 2) := by decide +kernel
theorem dX4_freezes_92 : decode cX4_freezes 92 = .ok (.iadd, 1) := by decide +kernel
theorem dX4_freezes_93 : decode cX4_freezes 93 = .ok (.idiv, 1) := by decide +kernel
theorem dX4_freezes_94 : decode cX4_freezes 94 = .ok (.istore_n 3, 1) := by decide +kernel
theorem dX4_freezes_95 : decode cX4_freezes 95 = .ok (.iload_n 3, 1) := by decide +kernel
theorem dX4_freezes_96 : decode cX4_freezes 96 = .ok (.aload_n 0, 1) := by decide +kernel
theorem dX4_freezes_97 : decode cX4_freezes 97 = .ok (.getfield 13, 3) := by decide +kernel
theorem dX4_freezes_100 : decode cX4_freezes 100 = .ok (.iload_n 1, 1) := by decide +kernel
theorem dX4_freezes_101 : decode cX4_freezes 101 = .ok (.iaload, 1) := by decide +kernel
theorem dX4_freezes_102 : decode cX4_freezes 102 = .ok (.iconst 1, 1) := by decide +kernel
theorem dX4_freezes_103 : decode cX4_freezes 103 = .ok (.if_icmp .ne 7, 3) := by decide +kernel
theorem dX4_freezes_106 : decode cX4_freezes 106 = .ok (.iconst 2, 1) := by decide +kernel
theorem dX4_freezes_107 : decode cX4_freezes 107 = .ok (.goto 4, 3) := by decide +kernel
theorem dX4_freezes_110 : decode cX4_freezes 110 = .ok (.iconst 0, 1) := by decide +kernel
theorem dX4_freezes_111 : decode cX4_freezes 111 = .ok (.isub, 1) := by decide +kernel
theorem dX4_freezes_112 : decode cX4_freezes 112 = .ok (.istore_n 3, 1) := by decide +kernel
theorem dX4_freezes_113 : decode cX4_freezes 113 = .ok (.aload_n 0, 1) := by decide +kernel
theorem dX4_freezes_114 : decode cX4_freezes 114 = .ok (.getfield 23, 3) := by decide +kernel
theorem dX4_freezes_117 : decode cX4_freezes 117 = .ok (.iload_n 1, 1) := by decide +kernel
theorem dX4_freezes_118 : decode cX4_freezes 118 = .ok (.dup2, 1) := by decide +kernel
theorem dX4_freezes_119 : decode cX4_freezes 119 = .ok (.iaload, 1) := by decide +kernel
theorem dX4_freezes_120 : decode cX4_freezes 120 = .ok (.iload_n 3, 1) := by decide +kernel
theorem dX4_freezes_121 : decode cX4_freezes 121 = .ok (.ifCond .ge 7, 3) := by decide +kernel
theorem dX4_freezes_124 : decode cX4_freezes 124 = .ok (.iconst 0, 1) := by decide +kernel
theorem dX4_freezes_125 : decode cX4_freezes 125 = .ok (.goto 4, 3) := by decide +kernel
theorem dX4_freezes_128 : decode cX4_freezes 128 = .ok (.iload_n 3, 1) := by decide +kernel
theorem dX4_freezes_129 : decode cX4_freezes 129 = .ok (.iadd, 1) := by decide +kernel
theorem dX4_freezes_130 : decode cX4_freezes 130 = .ok (.iastore, 1) := by decide +kernel
theorem dX4_freezes_131 : decode cX4_freezes 131 = .ok (.aload_n 0, 1) := by decide +kernel
theorem dX4_freezes_132 : decode cX4_freezes 132 = .ok (.getfield 106, 3) := by decide +kernel
theorem dX4_freezes_135 : decode cX4_freezes 135 = .ok (.bipush 40, 2) := by decide +kernel
theorem dX4_freezes_137 : decode cX4_freezes 137 = .ok (.if_icmp .lt 31, 3) := by decide +kernel
theorem dX4_freezes_140 : decode cX4_freezes 140 = .ok (.aload_n 0, 1) := by decide +kernel
theorem dX4_freezes_141 : decode cX4_freezes 141 = .ok (.getfield 35, 3) := by decide +kernel
theorem dX4_freezes_144 : decode cX4_freezes 144 = .ok (.iload_n 1, 1) := by decide +kernel
theorem dX4_freezes_145 : decode cX4_freezes 145 = .ok (.aload_n 0, 1) := by decide +kernel
theorem dX4_freezes_146 : decode cX4_freezes 146 = .ok (.getfield 35, 3) := by decide +kernel
theorem dX4_freezes_149 : decode cX4_freezes 149 = .ok (.iload_n 1, 1) := by decide +kernel
theorem dX4_freezes_150 : decode cX4_freezes 150 = .ok (.iaload, 1) := by decide +kernel
theorem dX4_freezes_151 : decode cX4_freezes 151 = .ok (.ifCond .ne 7, 3) := by decide +kernel
theorem dX4_freezes_154 : decode cX4_freezes 154 = .ok (.iconst 1, 1) := by decide +kernel
theorem dX4_freezes_155 : decode cX4_freezes 155 = .ok (.goto 9, 3) := by decide +kernel
theorem dX4_freezes_158 : decode cX4_freezes 158 = .ok (.aload_n 0, 1) := by decide +kernel
theorem dX4_freezes_159 : decode cX4_freezes 159 = .ok (.getfield 35, 3) := by decide +kernel
theorem dX4_freezes_162 : decode cX4_freezes 162 = .ok (.iload_n 1, 1) := by decide +kernel
theorem dX4_freezes_163 : decode cX4_freezes 163 = .ok (.iaload, 1) := by decide +kernel
theorem dX4_freezes_164 : decode cX4_freezes 164 = .ok (.iastore, 1) := by decide +kernel
theorem dX4_freezes_165 : decode cX4_freezes 165 = .ok (.goto 33, 3) := by decide +kernel
theorem dX4_freezes_168 : decode cX4_freezes 168 = .ok (.aload_n 0, 1) := by decide +kernel
theorem dX4_freezes_169 : decode cX4_freezes 169 = .ok (.getfield 106, 3) := by decide +kernel
theorem dX4_freezes_172 : decode cX4_freezes 172 = .ok (.bipush 10, 2) := by decide +kernel
theorem dX4_freezes_174 : decode cX4_freezes 174 = .ok (.if_icmp .lt 24, 3) := by decide +kernel
theorem dX4_freezes_177 : decode cX4_freezes 177 = .ok (.aload_n 0, 1) := by decide +kernel
theorem dX4_freezes_178 : decode cX4_freezes 178 = .ok (.getfield 35, 3) := by decide +kernel
theorem dX4_freezes_181 : decode cX4_freezes 181 = .ok (.iload_n 1, 1) := by decide +kernel
theorem dX4_freezes_182 : decode cX4_freezes 182 = .ok (.aload_n 0, 1) := by decide +kernel
theorem dX4_freezes_183 : decode cX4_freezes 183 = .ok (.getfield 35, 3) := by decide +kernel
theorem dX4_freezes_186 : decode cX4_freezes 186 = .ok (.iload_n 1, 1) := by decide +kernel
theorem dX4_freezes_187 : decode cX4_freezes 187 = .ok (.iaload, 1) := by decide +kernel
theorem dX4_freezes_188 : decode cX4_freezes 188 = .ok (.iconst 2, 1) := by decide +kernel
theorem dX4_freezes_189 : decode cX4_freezes 189 = .ok (.if_icmp .ne 7, 3) := by decide +kernel
theorem dX4_freezes_192 : decode cX4_freezes 192 = .ok (.iconst 1, 1) := by decide +kernel
theorem dX4_freezes_193 : decode cX4_freezes 193 = .ok (.goto 4, 3) := by decide +kernel
theorem dX4_freezes_196 : decode cX4_freezes 196 = .ok (.iconst 0, 1) := by decide +kernel
theorem dX4_freezes_197 : decode cX4_freezes 197 = .ok (.iastore, 1) := by decide +kernel
theorem dX4_freezes_198 : decode cX4_freezes 198 = .ok (.return_, 1) := by decide +kernel
theorem dX4_thaws_0 : decode cX4_thaws 0 = .ok (.bipush (-6), 2) := by decide +kernel
theorem dX4_thaws_2 : decode cX4_thaws 2 = .ok (.aload_n 0, 1) := by decide +kernel
theorem dX4_thaws_3 : decode cX4_thaws 3 = .ok (.getfield 106, 3) := by decide +kernel
theorem dX4_thaws_6 : decode cX4_thaws 6 = .ok (.imul, 1) := by decide +kernel
theorem dX4_thaws_7 : decode cX4_thaws 7 = .ok (.istore_n 2, 1) := by decide +kernel
theorem dX4_thaws_8 : decode cX4_thaws 8 = .ok (.iload_n 2, 1) := by decide +kernel
theorem dX4_thaws_9 : decode cX4_thaws 9 = .ok (.aload_n 0, 1) := by decide +kernel
theorem dX4_thaws_10 : decode cX4_thaws 10 = .ok (.getfield 32, 3) := by decide +kernel
theorem dX4_thaws_13 : decode cX4_thaws 13 = .ok (.iload_n 1, 1) := by decide +kernel
theorem dX4_thaws_14 : decode cX4_thaws 14 = .ok (.iaload, 1) := by decide +kernel
theorem dX4_thaws_15 : decode cX4_thaws 15 = .ok (.if_icmp .ge 7, 3) := by decide +kernel
theorem dX4_thaws_18 : decode cX4_thaws 18 = .ok (.iload_n 2, 1) := by decide +kernel
theorem dX4_thaws_19 : decode cX4_thaws 19 = .ok (.goto 9, 3) := by decide +kernel
theorem dX4_thaws_22 : decode cX4_thaws 22 = .ok (.aload_n 0, 1) := by decide +kernel
theorem dX4_thaws_23 : decode cX4_thaws 23 = .ok (.getfield 32, 3) := by decide +kernel
theorem dX4_thaws_26 : decode cX4_thaws 26 = .ok (.iload_n 1, 1) := by decide +kernel
theorem dX4_thaws_27 : decode cX4_thaws 27 = .ok (.iaload, 1) := by decide +kernel
theorem dX4_thaws_28 : decode cX4_thaws 28 = .ok (.istore_n 3, 1) := by decide +kernel
theorem dX4_thaws_29 : decode cX4_thaws 29 = .ok (.aload_n 0, 1) := by decide +kernel
theorem dX4_thaws_30 : decode cX4_thaws 30 = .ok (.getfield 32, 3) := by decide +kernel
theorem dX4_thaws_33 : decode cX4_thaws 33 = .ok (.iload_n 1, 1) := by decide +kernel
theorem dX4_thaws_34 : decode cX4_thaws 34 = .ok (.dup2, 1) := by decide +kernel
theorem dX4_thaws_35 : decode cX4_thaws 35 = .ok (.iaload, 1) := by decide +kernel
theorem dX4_thaws_36 : decode cX4_thaws 36 = .ok (.iload_n 3, 1) := by decide +kernel
theorem dX4_thaws_37 : decode cX4_thaws 37 = .ok (.isub, 1) := by decide +kernel
theorem dX4_thaws_38 : decode cX4_thaws 38 = .ok (.iastore, 1) := by decide +kernel
theorem dX4_thaws_39 : decode cX4_thaws 39 = .ok (.iload_n 2, 1) := by decide +kernel
theorem dX4_thaws_40 : decode cX4_thaws 40 = .ok (.iload_n 3, 1) := by decide +kernel
theorem dX4_thaws_41 : decode cX4_thaws 41 = .ok (.isub, 1) := by decide +kernel
theorem dX4_thaws_42 : decode cX4_thaws 42 = .ok (.istore_n 2, 1) := by decide +kernel
theorem dX4_thaws_43 : decode cX4_thaws 43 = .ok (.iload_n 2, 1) := by decide +kernel
theorem dX4_thaws_44 : decode cX4_thaws 44 = .ok (.aload_n 0, 1) := by decide +kernel
theorem dX4_thaws_45 : decode cX4_thaws 45 = .ok (.getfield 26, 3) := by decide +kernel
theorem dX4_thaws_48 : decode cX4_thaws 48 = .ok (.iload_n 1, 1) := by decide +kernel
theorem dX4_thaws_49 : decode cX4_thaws 49 = .ok (.iaload, 1) := by decide +kernel
theorem dX4_thaws_50 : decode cX4_thaws 50 = .ok (.if_icmp .ge 7, 3) := by decide +kernel
theorem dX4_thaws_53 : decode cX4_thaws 53 = .ok (.iload_n 2, 1) := by decide +kernel
theorem dX4_thaws_54 : decode cX4_thaws 54 = .ok (.goto 9, 3) := by decide +kernel
theorem dX4_thaws_57 : decode cX4_thaws 57 = .ok (.aload_n 0, 1) := by decide +kernel
theorem dX4_thaws_58 : decode cX4_thaws 58 = .ok (.getfield 26, 3) := by decide +kernel
theorem dX4_thaws_61 : decode cX4_thaws 61 = .ok (.iload_n 1, 1) := by decide +kernel
theorem dX4_thaws_62 : decode cX4_thaws 62 = .ok (.iaload, 1) := by decide +kernel
theorem dX4_thaws_63 : decode cX4_thaws 63 = .ok (.istore 4, 2) := by decide +kernel
theorem dX4_thaws_65 : decode cX4_thaws 65 = .ok (.aload_n 0, 1) := by decide +kernel
theorem dX4_thaws_66 : decode cX4_thaws 66 = .ok (.getfield 26, 3) := by decide +kernel
theorem dX4_thaws_69 : decode cX4_thaws 69 = .ok (.iload_n 1, 1) := by decide +kernel
theorem dX4_thaws_70 : decode cX4_thaws 70 = .ok (.dup2, 1) := by decide +kernel
theorem dX4_thaws_71 : decode cX4_thaws 71 = .ok (.iaload, 1) := by decide +kernel
theorem dX4_thaws_72 : decode cX4_thaws 72 = .ok (.iload 4, 2) := by decide +kernel
theorem dX4_thaws_74 : decode cX4_thaws 74 = .ok (.isub, 1) := by decide +kernel
theorem dX4_thaws_75 : decode cX4_thaws 75 = .ok (.iastore, 1) := by decide +kernel
theorem dX4_thaws_76 : decode cX4_thaws 76 = .ok (.iload_n 2, 1) := by decide +kernel
theorem dX4_thaws_77 : decode cX4_thaws 77 = .ok (.iload 4, 2) := by decide +kernel
theorem dX4_thaws_79 : decode cX4_thaws 79 = .ok (.isub, 1) := by decide +kernel
theorem dX4_thaws_80 : decode cX4_thaws 80 = .ok (.istore_n 2, 1) := by decide +kernel
theorem dX4_thaws_81 : decode cX4_thaws 81 = .ok (.iload_n 2, 1) := by decide +kernel
theorem dX4_thaws_82 : decode cX4_thaws 82 = .ok (.aload_n 0, 1) := by decide +kernel
theorem dX4_thaws_83 : decode cX4_thaws 83 = .ok (.getfield 23, 3) := by decide +kernel
theorem dX4_thaws_86 : decode cX4_thaws 86 = .ok (.iload_n 1, 1) := by decide +kernel
theorem dX4_thaws_87 : decode cX4_thaws 87 = .ok (.iaload, 1) := by decide +kernel
theorem dX4_thaws_88 : decode cX4_thaws 88 = .ok (.if_icmp .ge 7, 3) := by decide +kernel
theorem dX4_thaws_91 : decode cX4_thaws 91 = .ok (.iload_n 2, 1) := by decide +kernel
theorem dX4_thaws_92 : decode cX4_thaws 92 = .ok (.goto 9, 3) := by decide +kernel
theorem dX4_thaws_95 : decode cX4_thaws 95 = .ok (.aload_n 0, 1) := by decide +kernel
theorem dX4_thaws_96 : decode cX4_thaws 96 = .ok (.getfield 23, 3) := by decide +kernel
theorem dX4_thaws_99 : decode cX4_thaws 99 = .ok (.iload_n 1, 1) := by decide +kernel
theorem dX4_thaws_100 : decode cX4_thaws 100 = .ok (.iaload, 1) := by decide +kernel
theorem dX4_thaws_101 : decode cX4_thaws 101 = .ok (.istore 5, 2) := by decide +kernel
theorem dX4_thaws_103 : decode cX4_thaws 103 = .ok (.aload_n 0, 1) := by decide +kernel
theorem dX4_thaws_104 : decode cX4_thaws 104 = .ok (.getfield 23, 3) := by decide +kernel
theorem dX4_thaws_107 : decode cX4_thaws 107 = .ok (.iload_n 1, 1) := by decide +kernel
theorem dX4_thaws_108 : decode cX4_thaws 108 = .ok (.dup2, 1) := by decide +kernel
theorem dX4_thaws_109 : decode cX4_thaws 109 = .ok (.iaload, 1) := by decide +kernel
theorem dX4_thaws_110 : decode cX4_thaws 110 = .ok (.iload 5, 2) := by decide +kernel
theorem dX4_thaws_112 : decode cX4_thaws 112 = .ok (.isub, 1) := by decide +kernel
theorem dX4_thaws_113 : decode cX4_thaws 113 = .ok (.iastore, 1) := by decide +kernel
theorem dX4_thaws_114 : decode cX4_thaws 114 = .ok (.aload_n 0, 1) := by decide +kernel
theorem dX4_thaws_115 : decode cX4_thaws 115 = .ok (.getfield 44, 3) := by decide +kernel
theorem dX4_thaws_118 : decode cX4_thaws 118 = .ok (.iload_n 1, 1) := by decide +kernel
theorem dX4_thaws_119 : decode cX4_thaws 119 = .ok (.daload, 1) := by decide +kernel
theorem dX4_thaws_120 : decode cX4_thaws 120 = .ok (.iload 5, 2) := by decide +kernel
theorem dX4_thaws_122 : decode cX4_thaws 122 = .ok (.i2d, 1) := by decide +kernel
theorem dX4_thaws_123 : decode cX4_thaws 123 = .ok (.ldc2_w 115, 3) := by decide +kernel
theorem dX4_thaws_126 : decode cX4_thaws 126 = .ok (.iload 4, 2) := by decide +kernel
theorem dX4_thaws_128 : decode cX4_thaws 128 = .ok (.i2d, 1) := by decide +kernel
theorem dX4_thaws_129 : decode cX4_thaws 129 = .ok (.dmul, 1) := by decide +kernel
theorem dX4_thaws_130 : decode cX4_thaws 130 = .ok (.dadd, 1) := by decide +kernel
theorem dX4_thaws_131 : decode cX4_thaws 131 = .ok (.dsub, 1) := by decide +kernel
theorem dX4_thaws_132 : decode cX4_thaws 132 = .ok (.dstore 6, 2) := by decide +kernel
theorem dX4_thaws_134 : decode cX4_thaws 134 = .ok (.aload_n 0, 1) := by decide +kernel
theorem dX4_thaws_135 : decode cX4_thaws 135 = .ok (.getfield 44, 3) := by decide +kernel
theorem dX4_thaws_138 : decode cX4_thaws 138 = .ok (.iload_n 1, 1) := by decide +kernel
theorem dX4_thaws_139 : decode cX4_thaws 139 = .ok (.dload 6, 2) := by decide +kernel
theorem dX4_thaws_141 : decode cX4_thaws 141 = .ok (.dconst 0, 1) := by decide +kernel
theorem dX4_thaws_142 : decode cX4_thaws 142 = .ok (.dcmp .g, 1) := by decide +kernel
theorem dX4_thaws_143 : decode cX4_thaws 143 = .ok (.ifCond .ge 7, 3) := by decide +kernel
theorem dX4_thaws_146 : decode cX4_thaws 146 = .ok (.dconst 0, 1) := by decide +kernel
theorem dX4_thaws_147 : decode cX4_thaws 147 = .ok (.goto 5, 3) := by decide +kernel
theorem dX4_thaws_150 : decode cX4_thaws 150 = .ok (.dload 6, 2) := by decide +kernel
theorem dX4_thaws_152 : decode cX4_thaws 152 = .ok (.dastore, 1) := by decide +kernel
theorem dX4_thaws_153 : decode cX4_thaws 153 = .ok (.aload_n 0, 1) := by decide +kernel
theorem dX4_thaws_154 : decode cX4_thaws 154 = .ok (.getfield 35, 3) := by decide +kernel
theorem dX4_thaws_157 : decode cX4_thaws 157 = .ok (.iload_n 1, 1) := by decide +kernel
theorem dX4_thaws_158 : decode cX4_thaws 158 = .ok (.aload_n 0, 1) := by decide +kernel
theorem dX4_thaws_159 : decode cX4_thaws 159 = .ok (.getfield 35, 3) := by decide +kernel
theorem dX4_thaws_162 : decode cX4_thaws 162 = .ok (.iload_n 1, 1) := by decide +kernel
theorem dX4_thaws_163 : decode cX4_thaws 163 = .ok (.iaload, 1) := by decide +kernel
theorem dX4_thaws_164 : decode cX4_thaws 164 = .ok (.iconst 1, 1) := by decide +kernel
theorem dX4_thaws_165 : decode cX4_thaws 165 = .ok (.if_icmp .ne 7, 3) := by decide +kernel
theorem dX4_thaws_168 : decode cX4_thaws 168 = .ok (.iconst 2, 1) := by decide +kernel
theorem dX4_thaws_169 : decode cX4_thaws 169 = .ok (.goto 9, 3) := by decide +kernel
theorem dX4_thaws_172 : decode cX4_thaws 172 = .ok (.aload_n 0, 1) := by decide +kernel
theorem dX4_thaws_173 : decode cX4_thaws 173 = .ok (.getfield 35, 3) := by decide +kernel
theorem dX4_thaws_176 : decode cX4_thaws 176 = .ok (.iload_n 1, 1) := by decide +kernel
theorem dX4_thaws_177 : decode cX4_thaws 177 = .ok (.iaload, 1) := by decide +kernel
theorem dX4_thaws_178 : decode cX4_thaws 178 = .ok (.iastore, 1) := by decide +kernel
theorem dX4_thaws_179 : decode cX4_thaws 179 = .ok (.return_, 1) := by decide +kernel
theorem dX4_ends_0 : decode cX4_ends 0 = .ok (.iconst 0, 1) := by decide +kernel
theorem dX4_ends_1 : decode cX4_ends 1 = .ok (.istore_n 1, 1) := by decide +kernel
theorem dX4_ends_2 : decode cX4_ends 2 = .ok (.iload_n 1, 1) := by decide +kernel
theorem dX4_ends_3 : decode cX4_ends 3 = .ok (.aload_n 0, 1) := by decide +kernel
theorem dX4_ends_4 : decode cX4_ends 4 = .ok (.getfield 91, 3) := by decide +kernel
theorem dX4_ends_7 : decode cX4_ends 7 = .ok (.if_icmp .ge 44, 3) := by decide +kernel
theorem dX4_ends_10 : decode cX4_ends 10 = .ok (.aload_n 0, 1) := by decide +kernel
theorem dX4_ends_11 : decode cX4_ends 11 = .ok (.getfield 106, 3) := by decide +kernel
theorem dX4_ends_14 : decode cX4_ends 14 = .ok (.ifCond .le 19, 3) := by decide +kernel
theorem dX4_ends_17 : decode cX4_ends 17 = .ok (.aload_n 0, 1) := by decide +kernel
theorem dX4_ends_18 : decode cX4_ends 18 = .ok (.iload_n 1, 1) := by decide +kernel
theorem dX4_ends_19 : decode cX4_ends 19 = .ok (.invokevirtual 112, 3) := by decide +kernel
theorem dX4_ends_22 : decode cX4_ends 22 = .ok (.ifCond .eq 11, 3) := by decide +kernel
theorem dX4_ends_25 : decode cX4_ends 25 = .ok (.aload_n 0, 1) := by decide +kernel
theorem dX4_ends_26 : decode cX4_ends 26 = .ok (.iload_n 1, 1) := by decide +kernel
theorem dX4_ends_27 : decode cX4_ends 27 = .ok (.invokevirtual 146, 3) := by decide +kernel
theorem dX4_ends_30 : decode cX4_ends 30 = .ok (.goto 15, 3) := by decide +kernel
theorem dX4_ends_33 : decode cX4_ends 33 = .ok (.aload_n 0, 1) := by decide +kernel
theorem dX4_ends_34 : decode cX4_ends 34 = .ok (.getfield 106, 3) := by decide +kernel
theorem dX4_ends_37 : decode cX4_ends 37 = .ok (.ifCond .ge 8, 3) := by decide +kernel
theorem dX4_ends_40 : decode cX4_ends 40 = .ok (.aload_n 0, 1) := by decide +kernel
theorem dX4_ends_41 : decode cX4_ends 41 = .ok (.iload_n 1, 1) := by decide +kernel
theorem dX4_ends_42 : decode cX4_ends 42 = .ok (.invokevirtual 149, 3) := by decide +kernel
theorem dX4_ends_45 : decode cX4_ends 45 = .ok (.iinc 1 1, 3) := by decide +kernel
theorem dX4_ends_48 : decode cX4_ends 48 = .ok (.goto (-46), 3) := by decide +kernel
theorem dX4_ends_51 : decode cX4_ends 51 = .ok (.return_, 1) := by decide +kernel
theorem dX4_bearsBy_0 : decode cX4_bearsBy 0 = .ok (.aload_n 0, 1) := by decide +kernel
theorem dX4_bearsBy_1 : decode cX4_bearsBy 1 = .ok (.iload_n 1, 1) := by decide +kernel
theorem dX4_bearsBy_2 : decode cX4_bearsBy 2 = .ok (.invokevirtual 112, 3) := by decide +kernel
theorem dX4_bearsBy_5 : decode cX4_bearsBy 5 = .ok (.ifCond .ne 21, 3) := by decide +kernel
theorem dX4_bearsBy_8 : decode cX4_bearsBy 8 = .ok (.aload_n 0, 1) := by decide +kernel
theorem dX4_bearsBy_9 : decode cX4_bearsBy 9 = .ok (.getfield 32, 3) := by decide +kernel
theorem dX4_bearsBy_12 : decode cX4_bearsBy 12 = .ok (.iload_n 1, 1) := by decide +kernel
theorem dX4_bearsBy_13 : decode cX4_bearsBy 13 = .ok (.iaload, 1) := by decide +kernel
theorem dX4_bearsBy_14 : decode cX4_bearsBy 14 = .ok (.bipush 100, 2) := by decide +kernel
theorem dX4_bearsBy_16 : decode cX4_bearsBy 16 = .ok (.if_icmp .lt 8, 3) := by decide +kernel
theorem dX4_bearsBy_19 : decode cX4_bearsBy 19 = .ok (.ldc 122, 2) := by decide +kernel
theorem dX4_bearsBy_21 : decode cX4_bearsBy 21 = .ok (.goto 4, 3) := by decide +kernel
theorem dX4_bearsBy_24 : decode cX4_bearsBy 24 = .ok (.iconst 0, 1) := by decide +kernel
theorem dX4_bearsBy_25 : decode cX4_bearsBy 25 = .ok (.ireturn, 1) := by decide +kernel
theorem dX4_bearsBy_26 : decode cX4_bearsBy 26 = .ok (.ldc2_w 152, 3) := by decide +kernel
theorem dX4_bearsBy_29 : decode cX4_bearsBy 29 = .ok (.dload_n 2, 1) := by decide +kernel
theorem dX4_bearsBy_30 : decode cX4_bearsBy 30 = .ok (.dmul, 1) := by decide +kernel
theorem dX4_bearsBy_31 : decode cX4_bearsBy 31 = .ok (.dload_n 2, 1) := by decide +kernel
theorem dX4_bearsBy_32 : decode cX4_bearsBy 32 = .ok (.dmul, 1) := by decide +kernel
theorem dX4_bearsBy_33 : decode cX4_bearsBy 33 = .ok (.aload_n 0, 1) := by decide +kernel
theorem dX4_bearsBy_34 : decode cX4_bearsBy 34 = .ok (.getfield 35, 3) := by decide +kernel
theorem dX4_bearsBy_37 : decode cX4_bearsBy 37 = .ok (.iload_n 1, 1) := by decide +kernel
theorem dX4_bearsBy_38 : decode cX4_bearsBy 38 = .ok (.iaload, 1) := by decide +kernel
theorem dX4_bearsBy_39 : decode cX4_bearsBy 39 = .ok (.ifCond .ne 7, 3) := by decide +kernel
theorem dX4_bearsBy_42 : decode cX4_bearsBy 42 = .ok (.dconst 1, 1) := by decide +kernel
theorem dX4_bearsBy_43 : decode cX4_bearsBy 43 = .ok (.goto 22, 3) := by decide +kernel
theorem dX4_bearsBy_46 : decode cX4_bearsBy 46 = .ok (.aload_n 0, 1) := by decide +kernel
theorem dX4_bearsBy_47 : decode cX4_bearsBy 47 = .ok (.getfield 35, 3) := by decide +kernel
theorem dX4_bearsBy_50 : decode cX4_bearsBy 50 = .ok (.iload_n 1, 1) := by decide +kernel
theorem dX4_bearsBy_51 : decode cX4_bearsBy 51 = .ok (.iaload, 1) := by decide +kernel
theorem dX4_bearsBy_52 : decode cX4_bearsBy 52 = .ok (.iconst 1, 1) := by decide +kernel
theorem dX4_bearsBy_53 : decode cX4_bearsBy 53 = .ok (.if_icmp .ne 9, 3) := by decide +kernel
theorem dX4_bearsBy_56 : decode cX4_bearsBy 56 = .ok (.ldc2_w 154, 3) := by decide +kernel
theorem dX4_bearsBy_59 : decode cX4_bearsBy 59 = .ok (.goto 6, 3) := by decide +kernel
theorem dX4_bearsBy_62 : decode cX4_bearsBy 62 = .ok (.ldc2_w 115, 3) := by decide +kernel
theorem dX4_bearsBy_65 : decode cX4_bearsBy 65 = .ok (.dmul, 1) := by decide +kernel
theorem dX4_bearsBy_66 : decode cX4_bearsBy 66 = .ok (.d2i, 1) := by decide +kernel
theorem dX4_bearsBy_67 : decode cX4_bearsBy 67 = .ok (.ireturn, 1) := by decide +kernel
theorem dX4_speedOn_0 : decode cX4_speedOn 0 = .ok (.aload_n 0, 1) := by decide +kernel
theorem dX4_speedOn_1 : decode cX4_speedOn 1 = .ok (.getfield 57, 3) := by decide +kernel
theorem dX4_speedOn_4 : decode cX4_speedOn 4 = .ok (.iload_n 1, 1) := by decide +kernel
theorem dX4_speedOn_5 : decode cX4_speedOn 5 = .ok (.iaload, 1) := by decide +kernel
theorem dX4_speedOn_6 : decode cX4_speedOn 6 = .ok (.aload_n 0, 1) := by decide +kernel
theorem dX4_speedOn_7 : decode cX4_speedOn 7 = .ok (.getfield 41, 3) := by decide +kernel
theorem dX4_speedOn_10 : decode cX4_speedOn 10 = .ok (.iload_n 2, 1) := by decide +kernel
theorem dX4_speedOn_11 : decode cX4_speedOn 11 = .ok (.iaload, 1) := by decide +kernel
theorem dX4_speedOn_12 : decode cX4_speedOn 12 = .ok (.if_icmp .ge 12, 3) := by decide +kernel
theorem dX4_speedOn_15 : decode cX4_speedOn 15 = .ok (.aload_n 0, 1) := by decide +kernel
theorem dX4_speedOn_16 : decode cX4_speedOn 16 = .ok (.getfield 57, 3) := by decide +kernel
theorem dX4_speedOn_19 : decode cX4_speedOn 19 = .ok (.iload_n 1, 1) := by decide +kernel
theorem dX4_speedOn_20 : decode cX4_speedOn 20 = .ok (.iaload, 1) := by decide +kernel
theorem dX4_speedOn_21 : decode cX4_speedOn 21 = .ok (.goto 9, 3) := by decide +kernel
theorem dX4_speedOn_24 : decode cX4_speedOn 24 = .ok (.aload_n 0, 1) := by decide +kernel
theorem dX4_speedOn_25 : decode cX4_speedOn 25 = .ok (.getfield 41, 3) := by decide +kernel
theorem dX4_speedOn_28 : decode cX4_speedOn 28 = .ok (.iload_n 2, 1) := by decide +kernel
theorem dX4_speedOn_29 : decode cX4_speedOn 29 = .ok (.iaload, 1) := by decide +kernel
theorem dX4_speedOn_30 : decode cX4_speedOn 30 = .ok (.istore_n 3, 1) := by decide +kernel
theorem dX4_speedOn_31 : decode cX4_speedOn 31 = .ok (.ldc2_w 156, 3) := by decide +kernel
theorem dX4_speedOn_34 : decode cX4_speedOn 34 = .ok (.aload_n 0, 1) := by decide +kernel
theorem dX4_speedOn_35 : decode cX4_speedOn 35 = .ok (.getfield 20, 3) := by decide +kernel
theorem dX4_speedOn_38 : decode cX4_speedOn 38 = .ok (.iload_n 2, 1) := by decide +kernel
theorem dX4_speedOn_39 : decode cX4_speedOn 39 = .ok (.iaload, 1) := by decide +kernel
theorem dX4_speedOn_40 : decode cX4_speedOn 40 = .ok (.i2d, 1) := by decide +kernel
theorem dX4_speedOn_41 : decode cX4_speedOn 41 = .ok (.dmul, 1) := by decide +kernel
theorem dX4_speedOn_42 : decode cX4_speedOn 42 = .ok (.dstore 4, 2) := by decide +kernel
theorem dX4_speedOn_44 : decode cX4_speedOn 44 = .ok (.ldc2_w 158, 3) := by decide +kernel
theorem dX4_speedOn_47 : decode cX4_speedOn 47 = .ok (.aload_n 0, 1) := by decide +kernel
theorem dX4_speedOn_48 : decode cX4_speedOn 48 = .ok (.getfield 20, 3) := by decide +kernel
theorem dX4_speedOn_51 : decode cX4_speedOn 51 = .ok (.iload_n 2, 1) := by decide +kernel
theorem dX4_speedOn_52 : decode cX4_speedOn 52 = .ok (.iaload, 1) := by decide +kernel
theorem dX4_speedOn_53 : decode cX4_speedOn 53 = .ok (.i2d, 1) := by decide +kernel
theorem dX4_speedOn_54 : decode cX4_speedOn 54 = .ok (.dmul, 1) := by decide +kernel
theorem dX4_speedOn_55 : decode cX4_speedOn 55 = .ok (.dstore 6, 2) := by decide +kernel
theorem dX4_speedOn_57 : decode cX4_speedOn 57 = .ok (.iload_n 3, 1) := by decide +kernel
theorem dX4_speedOn_58 : decode cX4_speedOn 58 = .ok (.iload_n 3, 1) := by decide +kernel
theorem dX4_speedOn_59 : decode cX4_speedOn 59 = .ok (.imul, 1) := by decide +kernel
theorem dX4_speedOn_60 : decode cX4_speedOn 60 = .ok (.i2d, 1) := by decide +kernel
theorem dX4_speedOn_61 : decode cX4_speedOn 61 = .ok (.dstore 8, 2) := by decide +kernel
theorem dX4_speedOn_63 : decode cX4_speedOn 63 = .ok (.aload_n 0, 1) := by decide +kernel
theorem dX4_speedOn_64 : decode cX4_speedOn 64 = .ok (.iload_n 2, 1) := by decide +kernel
theorem dX4_speedOn_65 : decode cX4_speedOn 65 = .ok (.invokevirtual 112, 3) := by decide +kernel
theorem dX4_speedOn_68 : decode cX4_speedOn 68 = .ok (.ifCond .eq 35, 3) := by decide +kernel
theorem dX4_speedOn_71 : decode cX4_speedOn 71 = .ok (.dload 8, 2) := by decide +kernel
theorem dX4_speedOn_73 : decode cX4_speedOn 73 = .ok (.dload 4, 2) := by decide +kernel
theorem dX4_speedOn_75 : decode cX4_speedOn 75 = .ok (.dcmp .l, 1) := by decide +kernel
theorem dX4_speedOn_76 : decode cX4_speedOn 76 = .ok (.ifCond .le 27, 3) := by decide +kernel
theorem dX4_speedOn_79 : decode cX4_speedOn 79 = .ok (.dload 8, 2) := by decide +kernel
theorem dX4_speedOn_81 : decode cX4_speedOn 81 = .ok (.dload 6, 2) := by decide +kernel
theorem dX4_speedOn_83 : decode cX4_speedOn 83 = .ok (.dcmp .g, 1) := by decide +kernel
theorem dX4_speedOn_84 : decode cX4_speedOn 84 = .ok (.ifCond .ge 19, 3) := by decide +kernel
theorem dX4_speedOn_87 : decode cX4_speedOn 87 = .ok (.iload_n 3, 1) := by decide +kernel
theorem dX4_speedOn_88 : decode cX4_speedOn 88 = .ok (.iload_n 3, 1) := by decide +kernel
theorem dX4_speedOn_89 : decode cX4_speedOn 89 = .ok (.imul, 1) := by decide +kernel
theorem dX4_speedOn_90 : decode cX4_speedOn 90 = .ok (.i2d, 1) := by decide +kernel
theorem dX4_speedOn_91 : decode cX4_speedOn 91 = .ok (.dload 4, 2) := by decide +kernel
theorem dX4_speedOn_93 : decode cX4_speedOn 93 = .ok (.dcmp .l, 1) := by decide +kernel
theorem dX4_speedOn_94 : decode cX4_speedOn 94 = .ok (.ifCond .le 9, 3) := by decide +kernel
theorem dX4_speedOn_97 : decode cX4_speedOn 97 = .ok (.iinc 3 (-1), 3) := by decide +kernel
theorem dX4_speedOn_100 : decode cX4_speedOn 100 = .ok (.goto (-13), 3) := by decide +kernel
theorem dX4_speedOn_103 : decode cX4_speedOn 103 = .ok (.iload_n 3, 1) := by decide +kernel
theorem dX4_speedOn_104 : decode cX4_speedOn 104 = .ok (.ireturn, 1) := by decide +kernel
theorem dX4_minutesOn_0 : decode cX4_minutesOn 0 = .ok (.bipush 6, 2) := by decide +kernel
theorem dX4_minutesOn_2 : decode cX4_minutesOn 2 = .ok (.aload_n 0, 1) := by decide +kernel
theorem dX4_minutesOn_3 : decode cX4_minutesOn 3 = .ok (.iload_n 1, 1) := by decide +kernel
theorem dX4_minutesOn_4 : decode cX4_minutesOn 4 = .ok (.iload_n 2, 1) := by decide +kernel
theorem dX4_minutesOn_5 : decode cX4_minutesOn 5 = .ok (.invokevirtual 160, 3) := by decide +kernel
theorem dX4_minutesOn_8 : decode cX4_minutesOn 8 = .ok (.imul, 1) := by decide +kernel
theorem dX4_minutesOn_9 : decode cX4_minutesOn 9 = .ok (.istore_n 3, 1) := by decide +kernel
theorem dX4_minutesOn_10 : decode cX4_minutesOn 10 = .ok (.aload_n 0, 1) := by decide +kernel
theorem dX4_minutesOn_11 : decode cX4_minutesOn 11 = .ok (.getfield 17, 3) := by decide +kernel
theorem dX4_minutesOn_14 : decode cX4_minutesOn 14 = .ok (.iload_n 2, 1) := by decide +kernel
theorem dX4_minutesOn_15 : decode cX4_minutesOn 15 = .ok (.iaload, 1) := by decide +kernel
theorem dX4_minutesOn_16 : decode cX4_minutesOn 16 = .ok (.iload_n 3, 1) := by decide +kernel
theorem dX4_minutesOn_17 : decode cX4_minutesOn 17 = .ok (.iadd, 1) := by decide +kernel
theorem dX4_minutesOn_18 : decode cX4_minutesOn 18 = .ok (.iconst 1, 1) := by decide +kernel
theorem dX4_minutesOn_19 : decode cX4_minutesOn 19 = .ok (.isub, 1) := by decide +kernel
theorem dX4_minutesOn_20 : decode cX4_minutesOn 20 = .ok (.iload_n 3, 1) := by decide +kernel
theorem dX4_minutesOn_21 : decode cX4_minutesOn 21 = .ok (.idiv, 1) := by decide +kernel
theorem dX4_minutesOn_22 : decode cX4_minutesOn 22 = .ok (.ireturn, 1) := by decide +kernel
theorem dX4_weights_0 : decode cX4_weights 0 = .ok (.iconst 0, 1) := by decide +kernel
theorem dX4_weights_1 : decode cX4_weights 1 = .ok (.istore_n 2, 1) := by decide +kernel
theorem dX4_weights_2 : decode cX4_weights 2 = .ok (.iconst 0, 1) := by decide +kernel
theorem dX4_weights_3 : decode cX4_weights 3 = .ok (.istore_n 3, 1) := by decide +kernel
theorem dX4_weights_4 : decode cX4_weights 4 = .ok (.iload_n 3, 1) := by decide +kernel
theorem dX4_weights_5 : decode cX4_weights 5 = .ok (.aload_n 0, 1) := by decide +kernel
theorem dX4_weights_6 : decode cX4_weights 6 = .ok (.getfield 98, 3) := by decide +kernel
theorem dX4_weights_9 : decode cX4_weights 9 = .ok (.if_icmp .ge 41, 3) := by decide +kernel
theorem dX4_weights_12 : decode cX4_weights 12 = .ok (.iload_n 2, 1) := by decide +kernel
theorem dX4_weights_13 : decode cX4_weights 13 = .ok (.aload_n 0, 1) := by decide +kernel
theorem dX4_weights_14 : decode cX4_weights 14 = .ok (.getfield 60, 3) := by decide +kernel
theorem dX4_weights_17 : decode cX4_weights 17 = .ok (.iload_n 3, 1) := by decide +kernel
theorem dX4_weights_18 : decode cX4_weights 18 = .ok (.iaload, 1) := by decide +kernel
theorem dX4_weights_19 : decode cX4_weights 19 = .ok (.iconst 1, 1) := by decide +kernel
theorem dX4_weights_20 : decode cX4_weights 20 = .ok (.if_icmp .ne 21, 3) := by decide +kernel
theorem dX4_weights_23 : decode cX4_weights 23 = .ok (.aload_n 0, 1) := by decide +kernel
theorem dX4_weights_24 : decode cX4_weights 24 = .ok (.getfield 63, 3) := by decide +kernel
theorem dX4_weights_27 : decode cX4_weights 27 = .ok (.iload_n 3, 1) := by decide +kernel
theorem dX4_weights_28 : decode cX4_weights 28 = .ok (.iaload, 1) := by decide +kernel
theorem dX4_weights_29 : decode cX4_weights 29 = .ok (.iload_n 1, 1) := by decide +kernel
theorem dX4_weights_30 : decode cX4_weights 30 = .ok (.if_icmp .ne 11, 3) := by decide +kernel
theorem dX4_weights_33 : decode cX4_weights 33 = .ok (.aload_n 0, 1) := by decide +kernel
theorem dX4_weights_34 : decode cX4_weights 34 = .ok (.iload_n 3, 1) := by decide +kernel
theorem dX4_weights_35 : decode cX4_weights 35 = .ok (.invokevirtual 129, 3) := by decide +kernel
theorem dX4_weights_38 : decode cX4_weights 38 = .ok (.goto 4, 3) := by decide +kernel
theorem dX4_weights_41 : decode cX4_weights 41 = .ok (.iconst 0, 1) := by decide +kernel
theorem dX4_weights_42 : decode cX4_weights 42 = .ok (.iadd, 1) := by decide +kernel
theorem dX4_weights_43 : decode cX4_weights 43 = .ok (.istore_n 2, 1) := by decide +kernel
theorem dX4_weights_44 : decode cX4_weights 44 = .ok (.iinc 3 1, 3) := by decide +kernel
theorem dX4_weights_47 : decode cX4_weights 47 = .ok (.goto (-43), 3) := by decide +kernel
theorem dX4_weights_50 : decode cX4_weights 50 = .ok (.iload_n 2, 1) := by decide +kernel
theorem dX4_weights_51 : decode cX4_weights 51 = .ok (.ireturn, 1) := by decide +kernel
theorem dX4_isMet_0 : decode cX4_isMet 0 = .ok (.iconst 0, 1) := by decide +kernel
theorem dX4_isMet_1 : decode cX4_isMet 1 = .ok (.istore_n 3, 1) := by decide +kernel
theorem dX4_isMet_2 : decode cX4_isMet 2 = .ok (.iconst 0, 1) := by decide +kernel
theorem dX4_isMet_3 : decode cX4_isMet 3 = .ok (.istore 4, 2) := by decide +kernel
theorem dX4_isMet_5 : decode cX4_isMet 5 = .ok (.iload 4, 2) := by decide +kernel
theorem dX4_isMet_7 : decode cX4_isMet 7 = .ok (.aload_n 0, 1) := by decide +kernel
theorem dX4_isMet_8 : decode cX4_isMet 8 = .ok (.getfield 98, 3) := by decide +kernel
theorem dX4_isMet_11 : decode cX4_isMet 11 = .ok (.if_icmp .ge 57, 3) := by decide +kernel
theorem dX4_isMet_14 : decode cX4_isMet 14 = .ok (.iload_n 3, 1) := by decide +kernel
theorem dX4_isMet_15 : decode cX4_isMet 15 = .ok (.ifCond .ne 41, 3) := by decide +kernel
theorem dX4_isMet_18 : decode cX4_isMet 18 = .ok (.aload_n 0, 1) := by decide +kernel
theorem dX4_isMet_19 : decode cX4_isMet 19 = .ok (.getfield 60, 3) := by decide +kernel
theorem dX4_isMet_22 : decode cX4_isMet 22 = .ok (.iload 4, 2) := by decide +kernel
theorem dX4_isMet_24 : decode cX4_isMet 24 = .ok (.iaload, 1) := by decide +kernel
theorem dX4_isMet_25 : decode cX4_isMet 25 = .ok (.iconst 1, 1) := by decide +kernel
theorem dX4_isMet_26 : decode cX4_isMet 26 = .ok (.if_icmp .ne 34, 3) := by decide +kernel
theorem dX4_isMet_29 : decode cX4_isMet 29 = .ok (.aload_n 0, 1) := by decide +kernel
theorem dX4_isMet_30 : decode cX4_isMet 30 = .ok (.getfield 63, 3) := by decide +kernel
theorem dX4_isMet_33 : decode cX4_isMet 33 = .ok (.iload 4, 2) := by decide +kernel
theorem dX4_isMet_35 : decode cX4_isMet 35 = .ok (.iaload, 1) := by decide +kernel
theorem dX4_isMet_36 : decode cX4_isMet 36 = .ok (.iload_n 2, 1) := by decide +kernel
theorem dX4_isMet_37 : decode cX4_isMet 37 = .ok (.if_icmp .ne 23, 3) := by decide +kernel
theorem dX4_isMet_40 : decode cX4_isMet 40 = .ok (.aload_n 0, 1) := by decide +kernel
theorem dX4_isMet_41 : decode cX4_isMet 41 = .ok (.getfield 66, 3) := by decide +kernel
theorem dX4_isMet_44 : decode cX4_isMet 44 = .ok (.iload 4, 2) := by decide +kernel
theorem dX4_isMet_46 : decode cX4_isMet 46 = .ok (.baload, 1) := by decide +kernel
theorem dX4_isMet_47 : decode cX4_isMet 47 = .ok (.aload_n 0, 1) := by decide +kernel
theorem dX4_isMet_48 : decode cX4_isMet 48 = .ok (.getfield 66, 3) := by decide +kernel
theorem dX4_isMet_51 : decode cX4_isMet 51 = .ok (.iload_n 1, 1) := by decide +kernel
theorem dX4_isMet_52 : decode cX4_isMet 52 = .ok (.baload, 1) := by decide +kernel
theorem dX4_isMet_53 : decode cX4_isMet 53 = .ok (.if_icmp .eq 7, 3) := by decide +kernel
theorem dX4_isMet_56 : decode cX4_isMet 56 = .ok (.iconst 1, 1) := by decide +kernel
theorem dX4_isMet_57 : decode cX4_isMet 57 = .ok (.goto 4, 3) := by decide +kernel
theorem dX4_isMet_60 : decode cX4_isMet 60 = .ok (.iconst 0, 1) := by decide +kernel
theorem dX4_isMet_61 : decode cX4_isMet 61 = .ok (.istore_n 3, 1) := by decide +kernel
theorem dX4_isMet_62 : decode cX4_isMet 62 = .ok (.iinc 4 1, 3) := by decide +kernel
theorem dX4_isMet_65 : decode cX4_isMet 65 = .ok (.goto (-60), 3) := by decide +kernel
theorem dX4_isMet_68 : decode cX4_isMet 68 = .ok (.iload_n 3, 1) := by decide +kernel
theorem dX4_isMet_69 : decode cX4_isMet 69 = .ok (.ireturn, 1) := by decide +kernel
theorem dX4_nextPiece_0 : decode cX4_nextPiece 0 = .ok (.aload_n 0, 1) := by decide +kernel
theorem dX4_nextPiece_1 : decode cX4_nextPiece 1 = .ok (.getfield 66, 3) := by decide +kernel
theorem dX4_nextPiece_4 : decode cX4_nextPiece 4 = .ok (.iload_n 1, 1) := by decide +kernel
theorem dX4_nextPiece_5 : decode cX4_nextPiece 5 = .ok (.baload, 1) := by decide +kernel
theorem dX4_nextPiece_6 : decode cX4_nextPiece 6 = .ok (.ifCond .eq 12, 3) := by decide +kernel
theorem dX4_nextPiece_9 : decode cX4_nextPiece 9 = .ok (.aload_n 0, 1) := by decide +kernel
theorem dX4_nextPiece_10 : decode cX4_nextPiece 10 = .ok (.getfield 63, 3) := by decide +kernel
theorem dX4_nextPiece_13 : decode cX4_nextPiece 13 = .ok (.iload_n 1, 1) := by decide +kernel
theorem dX4_nextPiece_14 : decode cX4_nextPiece 14 = .ok (.iaload, 1) := by decide +kernel
theorem dX4_nextPiece_15 : decode cX4_nextPiece 15 = .ok (.goto 11, 3) := by decide +kernel
theorem dX4_nextPiece_18 : decode cX4_nextPiece 18 = .ok (.aload_n 0, 1) := by decide +kernel
theorem dX4_nextPiece_19 : decode cX4_nextPiece 19 = .ok (.getfield 63, 3) := by decide +kernel
theorem dX4_nextPiece_22 : decode cX4_nextPiece 22 = .ok (.iload_n 1, 1) := by decide +kernel
theorem dX4_nextPiece_23 : decode cX4_nextPiece 23 = .ok (.iaload, 1) := by decide +kernel
theorem dX4_nextPiece_24 : decode cX4_nextPiece 24 = .ok (.iconst 1, 1) := by decide +kernel
theorem dX4_nextPiece_25 : decode cX4_nextPiece 25 = .ok (.isub, 1) := by decide +kernel
theorem dX4_nextPiece_26 : decode cX4_nextPiece 26 = .ok (.ireturn, 1) := by decide +kernel
theorem dX4_against_0 : decode cX4_against 0 = .ok (.aload_n 0, 1) := by decide +kernel
theorem dX4_against_1 : decode cX4_against 1 = .ok (.iload_n 1, 1) := by decide +kernel
theorem dX4_against_2 : decode cX4_against 2 = .ok (.invokevirtual 164, 3) := by decide +kernel
theorem dX4_against_5 : decode cX4_against 5 = .ok (.istore_n 2, 1) := by decide +kernel
theorem dX4_against_6 : decode cX4_against 6 = .ok (.aload_n 0, 1) := by decide +kernel
theorem dX4_against_7 : decode cX4_against 7 = .ok (.getfield 38, 3) := by decide +kernel
theorem dX4_against_10 : decode cX4_against 10 = .ok (.iload_n 2, 1) := by decide +kernel
theorem dX4_against_11 : decode cX4_against 11 = .ok (.iaload, 1) := by decide +kernel
theorem dX4_against_12 : decode cX4_against 12 = .ok (.ifCond .ne 5, 3) := by decide +kernel
theorem dX4_against_15 : decode cX4_against 15 = .ok (.iconst 1, 1) := by decide +kernel
theorem dX4_against_16 : decode cX4_against 16 = .ok (.ireturn, 1) := by decide +kernel
theorem dX4_against_17 : decode cX4_against 17 = .ok (.aload_n 0, 1) := by decide +kernel
theorem dX4_against_18 : decode cX4_against 18 = .ok (.iload_n 2, 1) := by decide +kernel
theorem dX4_against_19 : decode cX4_against 19 = .ok (.invokevirtual 112, 3) := by decide +kernel
theorem dX4_against_22 : decode cX4_against 22 = .ok (.ifCond .eq 32, 3) := by decide +kernel
theorem dX4_against_25 : decode cX4_against 25 = .ok (.aload_n 0, 1) := by decide +kernel
theorem dX4_against_26 : decode cX4_against 26 = .ok (.getfield 106, 3) := by decide +kernel
theorem dX4_against_29 : decode cX4_against 29 = .ok (.ifCond .ge 25, 3) := by decide +kernel
theorem dX4_against_32 : decode cX4_against 32 = .ok (.aload_n 0, 1) := by decide +kernel
theorem dX4_against_33 : decode cX4_against 33 = .ok (.getfield 167, 3) := by decide +kernel
theorem dX4_against_36 : decode cX4_against 36 = .ok (.sipush 1440, 3) := by decide +kernel
theorem dX4_against_39 : decode cX4_against 39 = .ok (.irem, 1) := by decide +kernel
theorem dX4_against_40 : decode cX4_against 40 = .ok (.sipush 480, 3) := by decide +kernel
theorem dX4_against_43 : decode cX4_against 43 = .ok (.sipush 1199, 3) := by decide +kernel
theorem dX4_against_46 : decode cX4_against 46 = .ok (.invokestatic 94, 3) := by decide +kernel
theorem dX4_against_49 : decode cX4_against 49 = .ok (.ifCond .eq 5, 3) := by decide +kernel
theorem dX4_against_52 : decode cX4_against 52 = .ok (.iconst 2, 1) := by decide +kernel
theorem dX4_against_53 : decode cX4_against 53 = .ok (.ireturn, 1) := by decide +kernel
theorem dX4_against_54 : decode cX4_against 54 = .ok (.aload_n 0, 1) := by decide +kernel
theorem dX4_against_55 : decode cX4_against 55 = .ok (.getfield 38, 3) := by decide +kernel
theorem dX4_against_58 : decode cX4_against 58 = .ok (.iload_n 2, 1) := by decide +kernel
theorem dX4_against_59 : decode cX4_against 59 = .ok (.iaload, 1) := by decide +kernel
theorem dX4_against_60 : decode cX4_against 60 = .ok (.iconst 1, 1) := by decide +kernel
theorem dX4_against_61 : decode cX4_against 61 = .ok (.if_icmp .ne 16, 3) := by decide +kernel
theorem dX4_against_64 : decode cX4_against 64 = .ok (.aload_n 0, 1) := by decide +kernel
theorem dX4_against_65 : decode cX4_against 65 = .ok (.iload_n 1, 1) := by decide +kernel
theorem dX4_against_66 : decode cX4_against 66 = .ok (.invokevirtual 129, 3) := by decide +kernel
theorem dX4_against_69 : decode cX4_against 69 = .ok (.sipush 5000, 3) := by decide +kernel
theorem dX4_against_72 : decode cX4_against 72 = .ok (.if_icmp .le 5, 3) := by decide +kernel
theorem dX4_against_75 : decode cX4_against 75 = .ok (.iconst 3, 1) := by decide +kernel
theorem dX4_against_76 : decode cX4_against 76 = .ok (.ireturn, 1) := by decide +kernel
theorem dX4_against_77 : decode cX4_against 77 = .ok (.aload_n 0, 1) := by decide +kernel
theorem dX4_against_78 : decode cX4_against 78 = .ok (.getfield 167, 3) := by decide +kernel
theorem dX4_against_81 : decode cX4_against 81 = .ok (.aload_n 0, 1) := by decide +kernel
theorem dX4_against_82 : decode cX4_against 82 = .ok (.getfield 48, 3) := by decide +kernel
theorem dX4_against_85 : decode cX4_against 85 = .ok (.iconst 2, 1) := by decide +kernel
theorem dX4_against_86 : decode cX4_against 86 = .ok (.iload_n 2, 1) := by decide +kernel
theorem dX4_against_87 : decode cX4_against 87 = .ok (.imul, 1) := by decide +kernel
theorem dX4_against_88 : decode cX4_against 88 = .ok (.aload_n 0, 1) := by decide +kernel
theorem dX4_against_89 : decode cX4_against 89 = .ok (.getfield 66, 3) := by decide +kernel
theorem dX4_against_92 : decode cX4_against 92 = .ok (.iload_n 1, 1) := by decide +kernel
theorem dX4_against_93 : decode cX4_against 93 = .ok (.baload, 1) := by decide +kernel
theorem dX4_against_94 : decode cX4_against 94 = .ok (.ifCond .eq 7, 3) := by decide +kernel
theorem dX4_against_97 : decode cX4_against 97 = .ok (.iconst 1, 1) := by decide +kernel
theorem dX4_against_98 : decode cX4_against 98 = .ok (.goto 4, 3) := by decide +kernel
theorem dX4_against_101 : decode cX4_against 101 = .ok (.iconst 0, 1) := by decide +kernel
theorem dX4_against_102 : decode cX4_against 102 = .ok (.iadd, 1) := by decide +kernel
theorem dX4_against_103 : decode cX4_against 103 = .ok (.iaload, 1) := by decide +kernel
theorem dX4_against_104 : decode cX4_against 104 = .ok (.isub, 1) := by decide +kernel
theorem dX4_against_105 : decode cX4_against 105 = .ok (.aload_n 0, 1) := by decide +kernel
theorem dX4_against_106 : decode cX4_against 106 = .ok (.getfield 7, 3) := by decide +kernel
theorem dX4_against_109 : decode cX4_against 109 = .ok (.if_icmp .ge 5, 3) := by decide +kernel
theorem dX4_against_112 : decode cX4_against 112 = .ok (.iconst 4, 1) := by decide +kernel
theorem dX4_against_113 : decode cX4_against 113 = .ok (.ireturn, 1) := by decide +kernel
theorem dX4_against_114 : decode cX4_against 114 = .ok (.aload_n 0, 1) := by decide +kernel
theorem dX4_against_115 : decode cX4_against 115 = .ok (.getfield 13, 3) := by decide +kernel
theorem dX4_against_118 : decode cX4_against 118 = .ok (.iload_n 2, 1) := by decide +kernel
theorem dX4_against_119 : decode cX4_against 119 = .ok (.iaload, 1) := by decide +kernel
theorem dX4_against_120 : decode cX4_against 120 = .ok (.ifCond .eq 14, 3) := by decide +kernel
theorem dX4_against_123 : decode cX4_against 123 = .ok (.aload_n 0, 1) := by decide +kernel
theorem dX4_against_124 : decode cX4_against 124 = .ok (.iload_n 1, 1) := by decide +kernel
theorem dX4_against_125 : decode cX4_against 125 = .ok (.iload_n 2, 1) := by decide +kernel
theorem dX4_against_126 : decode cX4_against 126 = .ok (.invokevirtual 170, 3) := by decide +kernel
theorem dX4_against_129 : decode cX4_against 129 = .ok (.ifCond .eq 5, 3) := by decide +kernel
theorem dX4_against_132 : decode cX4_against 132 = .ok (.iconst 5, 1) := by decide +kernel
theorem dX4_against_133 : decode cX4_against 133 = .ok (.ireturn, 1) := by decide +kernel
theorem dX4_against_134 : decode cX4_against 134 = .ok (.aload_n 0, 1) := by decide +kernel
theorem dX4_against_135 : decode cX4_against 135 = .ok (.iload_n 1, 1) := by decide +kernel
theorem dX4_against_136 : decode cX4_against 136 = .ok (.invokevirtual 129, 3) := by decide +kernel
theorem dX4_against_139 : decode cX4_against 139 = .ok (.aload_n 0, 1) := by decide +kernel
theorem dX4_against_140 : decode cX4_against 140 = .ok (.iload_n 2, 1) := by decide +kernel
theorem dX4_against_141 : decode cX4_against 141 = .ok (.invokevirtual 174, 3) := by decide +kernel
theorem dX4_against_144 : decode cX4_against 144 = .ok (.iadd, 1) := by decide +kernel
theorem dX4_against_145 : decode cX4_against 145 = .ok (.aload_n 0, 1) := by decide +kernel
theorem dX4_against_146 : decode cX4_against 146 = .ok (.iload_n 2, 1) := by decide +kernel
theorem dX4_against_147 : decode cX4_against 147 = .ok (.aload_n 0, 1) := by decide +kernel
theorem dX4_against_148 : decode cX4_against 148 = .ok (.getfield 44, 3) := by decide +kernel
theorem dX4_against_151 : decode cX4_against 151 = .ok (.iload_n 2, 1) := by decide +kernel
theorem dX4_against_152 : decode cX4_against 152 = .ok (.daload, 1) := by decide +kernel
theorem dX4_against_153 : decode cX4_against 153 = .ok (.invokevirtual 177, 3) := by decide +kernel
theorem dX4_against_156 : decode cX4_against 156 = .ok (.if_icmp .le 8, 3) := by decide +kernel
theorem dX4_against_159 : decode cX4_against 159 = .ok (.bipush 6, 2) := by decide +kernel
theorem dX4_against_161 : decode cX4_against 161 = .ok (.goto 4, 3) := by decide +kernel
theorem dX4_against_164 : decode cX4_against 164 = .ok (.iconst 0, 1) := by decide +kernel
theorem dX4_against_165 : decode cX4_against 165 = .ok (.ireturn, 1) := by decide +kernel
theorem dX4_leaves_0 : decode cX4_leaves 0 = .ok (.aload_n 0, 1) := by decide +kernel
theorem dX4_leaves_1 : decode cX4_leaves 1 = .ok (.getfield 63, 3) := by decide +kernel
theorem dX4_leaves_4 : decode cX4_leaves 4 = .ok (.iload_n 1, 1) := by decide +kernel
theorem dX4_leaves_5 : decode cX4_leaves 5 = .ok (.iaload, 1) := by decide +kernel
theorem dX4_leaves_6 : decode cX4_leaves 6 = .ok (.istore_n 2, 1) := by decide +kernel
theorem dX4_leaves_7 : decode cX4_leaves 7 = .ok (.aload_n 0, 1) := by decide +kernel
theorem dX4_leaves_8 : decode cX4_leaves 8 = .ok (.iload_n 2, 1) := by decide +kernel
theorem dX4_leaves_9 : decode cX4_leaves 9 = .ok (.invokevirtual 112, 3) := by decide +kernel
theorem dX4_leaves_12 : decode cX4_leaves 12 = .ok (.ifCond .eq 35, 3) := by decide +kernel
theorem dX4_leaves_15 : decode cX4_leaves 15 = .ok (.aload_n 0, 1) := by decide +kernel
theorem dX4_leaves_16 : decode cX4_leaves 16 = .ok (.getfield 23, 3) := by decide +kernel
theorem dX4_leaves_19 : decode cX4_leaves 19 = .ok (.iload_n 2, 1) := by decide +kernel
theorem dX4_leaves_20 : decode cX4_leaves 20 = .ok (.iaload, 1) := by decide +kernel
theorem dX4_leaves_21 : decode cX4_leaves 21 = .ok (.aload_n 0, 1) := by decide +kernel
theorem dX4_leaves_22 : decode cX4_leaves 22 = .ok (.iload_n 1, 1) := by decide +kernel
theorem dX4_leaves_23 : decode cX4_leaves 23 = .ok (.invokevirtual 129, 3) := by decide +kernel
theorem dX4_leaves_26 : decode cX4_leaves 26 = .ok (.sipush 20000, 3) := by decide +kernel
theorem dX4_leaves_29 : decode cX4_leaves 29 = .ok (.idiv, 1) := by decide +kernel
theorem dX4_leaves_30 : decode cX4_leaves 30 = .ok (.isub, 1) := by decide +kernel
theorem dX4_leaves_31 : decode cX4_leaves 31 = .ok (.istore_n 3, 1) := by decide +kernel
theorem dX4_leaves_32 : decode cX4_leaves 32 = .ok (.aload_n 0, 1) := by decide +kernel
theorem dX4_leaves_33 : decode cX4_leaves 33 = .ok (.getfield 23, 3) := by decide +kernel
theorem dX4_leaves_36 : decode cX4_leaves 36 = .ok (.iload_n 2, 1) := by decide +kernel
theorem dX4_leaves_37 : decode cX4_leaves 37 = .ok (.iload_n 3, 1) := by decide +kernel
theorem dX4_leaves_38 : decode cX4_leaves 38 = .ok (.ifCond .ge 7, 3) := by decide +kernel
theorem dX4_leaves_41 : decode cX4_leaves 41 = .ok (.iconst 0, 1) := by decide +kernel
theorem dX4_leaves_42 : decode cX4_leaves 42 = .ok (.goto 4, 3) := by decide +kernel
theorem dX4_leaves_45 : decode cX4_leaves 45 = .ok (.iload_n 3, 1) := by decide +kernel
theorem dX4_leaves_46 : decode cX4_leaves 46 = .ok (.iastore, 1) := by decide +kernel
theorem dX4_leaves_47 : decode cX4_leaves 47 = .ok (.aload_n 0, 1) := by decide +kernel
theorem dX4_leaves_48 : decode cX4_leaves 48 = .ok (.getfield 63, 3) := by decide +kernel
theorem dX4_leaves_51 : decode cX4_leaves 51 = .ok (.iload_n 1, 1) := by decide +kernel
theorem dX4_leaves_52 : decode cX4_leaves 52 = .ok (.aload_n 0, 1) := by decide +kernel
theorem dX4_leaves_53 : decode cX4_leaves 53 = .ok (.getfield 66, 3) := by decide +kernel
theorem dX4_leaves_56 : decode cX4_leaves 56 = .ok (.iload_n 1, 1) := by decide +kernel
theorem dX4_leaves_57 : decode cX4_leaves 57 = .ok (.baload, 1) := by decide +kernel
theorem dX4_leaves_58 : decode cX4_leaves 58 = .ok (.ifCond .eq 9, 3) := by decide +kernel
theorem dX4_leaves_61 : decode cX4_leaves 61 = .ok (.iload_n 2, 1) := by decide +kernel
theorem dX4_leaves_62 : decode cX4_leaves 62 = .ok (.iconst 1, 1) := by decide +kernel
theorem dX4_leaves_63 : decode cX4_leaves 63 = .ok (.iadd, 1) := by decide +kernel
theorem dX4_leaves_64 : decode cX4_leaves 64 = .ok (.goto 4, 3) := by decide +kernel
theorem dX4_leaves_67 : decode cX4_leaves 67 = .ok (.iload_n 2, 1) := by decide +kernel
theorem dX4_leaves_68 : decode cX4_leaves 68 = .ok (.iastore, 1) := by decide +kernel
theorem dX4_leaves_69 : decode cX4_leaves 69 = .ok (.aload_n 0, 1) := by decide +kernel
theorem dX4_leaves_70 : decode cX4_leaves 70 = .ok (.getfield 60, 3) := by decide +kernel
theorem dX4_leaves_73 : decode cX4_leaves 73 = .ok (.iload_n 1, 1) := by decide +kernel
theorem dX4_leaves_74 : decode cX4_leaves 74 = .ok (.iconst 2, 1) := by decide +kernel
theorem dX4_leaves_75 : decode cX4_leaves 75 = .ok (.iastore, 1) := by decide +kernel
theorem dX4_leaves_76 : decode cX4_leaves 76 = .ok (.aload_n 0, 1) := by decide +kernel
theorem dX4_leaves_77 : decode cX4_leaves 77 = .ok (.iload_n 1, 1) := by decide +kernel
theorem dX4_leaves_78 : decode cX4_leaves 78 = .ok (.invokevirtual 137, 3) := by decide +kernel
theorem dX4_leaves_81 : decode cX4_leaves 81 = .ok (.ifCond .eq 8, 3) := by decide +kernel
theorem dX4_leaves_84 : decode cX4_leaves 84 = .ok (.aload_n 0, 1) := by decide +kernel
theorem dX4_leaves_85 : decode cX4_leaves 85 = .ok (.iload_n 1, 1) := by decide +kernel
theorem dX4_leaves_86 : decode cX4_leaves 86 = .ok (.invokevirtual 140, 3) := by decide +kernel
theorem dX4_leaves_89 : decode cX4_leaves 89 = .ok (.return_, 1) := by decide +kernel
theorem dX4_comes_0 : decode cX4_comes 0 = .ok (.aload_n 0, 1) := by decide +kernel
theorem dX4_comes_1 : decode cX4_comes 1 = .ok (.iload_n 1, 1) := by decide +kernel
theorem dX4_comes_2 : decode cX4_comes 2 = .ok (.invokevirtual 164, 3) := by decide +kernel
theorem dX4_comes_5 : decode cX4_comes 5 = .ok (.istore_n 2, 1) := by decide +kernel
theorem dX4_comes_6 : decode cX4_comes 6 = .ok (.aload_n 0, 1) := by decide +kernel
theorem dX4_comes_7 : decode cX4_comes 7 = .ok (.iload_n 1, 1) := by decide +kernel
theorem dX4_comes_8 : decode cX4_comes 8 = .ok (.invokevirtual 129, 3) := by decide +kernel
theorem dX4_comes_11 : decode cX4_comes 11 = .ok (.aload_n 0, 1) := by decide +kernel
theorem dX4_comes_12 : decode cX4_comes 12 = .ok (.iload_n 2, 1) := by decide +kernel
theorem dX4_comes_13 : decode cX4_comes 13 = .ok (.invokevirtual 174, 3) := by decide +kernel
theorem dX4_comes_16 : decode cX4_comes 16 = .ok (.iadd, 1) := by decide +kernel
theorem dX4_comes_17 : decode cX4_comes 17 = .ok (.aload_n 0, 1) := by decide +kernel
theorem dX4_comes_18 : decode cX4_comes 18 = .ok (.iload_n 2, 1) := by decide +kernel
theorem dX4_comes_19 : decode cX4_comes 19 = .ok (.aload_n 0, 1) := by decide +kernel
theorem dX4_comes_20 : decode cX4_comes 20 = .ok (.iload_n 2, 1) := by decide +kernel
theorem dX4_comes_21 : decode cX4_comes 21 = .ok (.invokevirtual 117, 3) := by decide +kernel
theorem dX4_comes_24 : decode cX4_comes 24 = .ok (.invokevirtual 177, 3) := by decide +kernel
theorem dX4_comes_27 : decode cX4_comes 27 = .ok (.if_icmp .le 7, 3) := by decide +kernel
theorem dX4_comes_30 : decode cX4_comes 30 = .ok (.iconst 1, 1) := by decide +kernel
theorem dX4_comes_31 : decode cX4_comes 31 = .ok (.goto 4, 3) := by decide +kernel
theorem dX4_comes_34 : decode cX4_comes 34 = .ok (.iconst 0, 1) := by decide +kernel
theorem dX4_comes_35 : decode cX4_comes 35 = .ok (.istore_n 3, 1) := by decide +kernel
theorem dX4_comes_36 : decode cX4_comes 36 = .ok (.aload_n 0, 1) := by decide +kernel
theorem dX4_comes_37 : decode cX4_comes 37 = .ok (.getfield 48, 3) := by decide +kernel
theorem dX4_comes_40 : decode cX4_comes 40 = .ok (.iconst 2, 1) := by decide +kernel
theorem dX4_comes_41 : decode cX4_comes 41 = .ok (.iload_n 2, 1) := by decide +kernel
theorem dX4_comes_42 : decode cX4_comes 42 = .ok (.imul, 1) := by decide +kernel
theorem dX4_comes_43 : decode cX4_comes 43 = .ok (.aload_n 0, 1) := by decide +kernel
theorem dX4_comes_44 : decode cX4_comes 44 = .ok (.getfield 66, 3) := by decide +kernel
theorem dX4_comes_47 : decode cX4_comes 47 = .ok (.iload_n 1, 1) := by decide +kernel
theorem dX4_comes_48 : decode cX4_comes 48 = .ok (.baload, 1) := by decide +kernel
theorem dX4_comes_49 : decode cX4_comes 49 = .ok (.ifCond .eq 7, 3) := by decide +kernel
theorem dX4_comes_52 : decode cX4_comes 52 = .ok (.iconst 1, 1) := by decide +kernel
theorem dX4_comes_53 : decode cX4_comes 53 = .ok (.goto 4, 3) := by decide +kernel
theorem dX4_comes_56 : decode cX4_comes 56 = .ok (.iconst 0, 1) := by decide +kernel
theorem dX4_comes_57 : decode cX4_comes 57 = .ok (.iadd, 1) := by decide +kernel
theorem dX4_comes_58 : decode cX4_comes 58 = .ok (.aload_n 0, 1) := by decide +kernel
theorem dX4_comes_59 : decode cX4_comes 59 = .ok (.getfield 167, 3) := by decide +kernel
theorem dX4_comes_62 : decode cX4_comes 62 = .ok (.iastore, 1) := by decide +kernel
theorem dX4_comes_63 : decode cX4_comes 63 = .ok (.aload_n 0, 1) := by decide +kernel
theorem dX4_comes_64 : decode cX4_comes 64 = .ok (.getfield 63, 3) := by decide +kernel
theorem dX4_comes_67 : decode cX4_comes 67 = .ok (.iload_n 1, 1) := by decide +kernel
theorem dX4_comes_68 : decode cX4_comes 68 = .ok (.iload_n 2, 1) := by decide +kernel
theorem dX4_comes_69 : decode cX4_comes 69 = .ok (.iastore, 1) := by decide +kernel
theorem dX4_comes_70 : decode cX4_comes 70 = .ok (.aload_n 0, 1) := by decide +kernel
theorem dX4_comes_71 : decode cX4_comes 71 = .ok (.getfield 60, 3) := by decide +kernel
theorem dX4_comes_74 : decode cX4_comes 74 = .ok (.iload_n 1, 1) := by decide +kernel
theorem dX4_comes_75 : decode cX4_comes 75 = .ok (.iload_n 3, 1) := by decide +kernel
theorem dX4_comes_76 : decode cX4_comes 76 = .ok (.ifCond .eq 7, 3) := by decide +kernel
theorem dX4_comes_79 : decode cX4_comes 79 = .ok (.iconst 4, 1) := by decide +kernel
theorem dX4_comes_80 : decode cX4_comes 80 = .ok (.goto 4, 3) := by decide +kernel
theorem dX4_comes_83 : decode cX4_comes 83 = .ok (.iconst 1, 1) := by decide +kernel
theorem dX4_comes_84 : decode cX4_comes 84 = .ok (.iastore, 1) := by decide +kernel
theorem dX4_comes_85 : decode cX4_comes 85 = .ok (.aload_n 0, 1) := by decide +kernel
theorem dX4_comes_86 : decode cX4_comes 86 = .ok (.getfield 70, 3) := by decide +kernel
theorem dX4_comes_89 : decode cX4_comes 89 = .ok (.iload_n 1, 1) := by decide +kernel
theorem dX4_comes_90 : decode cX4_comes 90 = .ok (.aload_n 0, 1) := by decide +kernel
theorem dX4_comes_91 : decode cX4_comes 91 = .ok (.getfield 167, 3) := by decide +kernel
theorem dX4_comes_94 : decode cX4_comes 94 = .ok (.aload_n 0, 1) := by decide +kernel
theorem dX4_comes_95 : decode cX4_comes 95 = .ok (.iload_n 1, 1) := by decide +kernel
theorem dX4_comes_96 : decode cX4_comes 96 = .ok (.iload_n 2, 1) := by decide +kernel
theorem dX4_comes_97 : decode cX4_comes 97 = .ok (.invokevirtual 181, 3) := by decide +kernel
theorem dX4_comes_100 : decode cX4_comes 100 = .ok (.iadd, 1) := by decide +kernel
theorem dX4_comes_101 : decode cX4_comes 101 = .ok (.iastore, 1) := by decide +kernel
theorem dX4_comes_102 : decode cX4_comes 102 = .ok (.iload_n 3, 1) := by decide +kernel
theorem dX4_comes_103 : decode cX4_comes 103 = .ok (.ifCond .eq 34, 3) := by decide +kernel
theorem dX4_comes_106 : decode cX4_comes 106 = .ok (.aload_n 0, 1) := by decide +kernel
theorem dX4_comes_107 : decode cX4_comes 107 = .ok (.getfield 38, 3) := by decide +kernel
theorem dX4_comes_110 : decode cX4_comes 110 = .ok (.iload_n 2, 1) := by decide +kernel
theorem dX4_comes_111 : decode cX4_comes 111 = .ok (.iconst 0, 1) := by decide +kernel
theorem dX4_comes_112 : decode cX4_comes 112 = .ok (.iastore, 1) := by decide +kernel
theorem dX4_comes_113 : decode cX4_comes 113 = .ok (.aload_n 0, 1) := by decide +kernel
theorem dX4_comes_114 : decode cX4_comes 114 = .ok (.getfield 35, 3) := by decide +kernel
theorem dX4_comes_117 : decode cX4_comes 117 = .ok (.iload_n 2, 1) := by decide +kernel
theorem dX4_comes_118 : decode cX4_comes 118 = .ok (.aload_n 0, 1) := by decide +kernel
theorem dX4_comes_119 : decode cX4_comes 119 = .ok (.iload_n 2, 1) := by decide +kernel
theorem dX4_comes_120 : decode cX4_comes 120 = .ok (.invokevirtual 112, 3) := by decide +kernel
theorem dX4_comes_123 : decode cX4_comes 123 = .ok (.ifCond .eq 7, 3) := by decide +kernel
theorem dX4_comes_126 : decode cX4_comes 126 = .ok (.iconst 2, 1) := by decide +kernel
theorem dX4_comes_127 : decode cX4_comes 127 = .ok (.goto 9, 3) := by decide +kernel
theorem dX4_comes_130 : decode cX4_comes 130 = .ok (.aload_n 0, 1) := by decide +kernel
theorem dX4_comes_131 : decode cX4_comes 131 = .ok (.getfield 35, 3) := by decide +kernel
theorem dX4_comes_134 : decode cX4_comes 134 = .ok (.iload_n 2, 1) := by decide +kernel
theorem dX4_comes_135 : decode cX4_comes 135 = .ok (.iaload, 1) := by decide +kernel
theorem dX4_comes_136 : decode cX4_comes 136 = .ok (.iastore, 1) := by decide +kernel
theorem dX4_comes_137 : decode cX4_comes 137 = .ok (.return_, 1) := by decide +kernel
theorem dX4_passes_0 : decode cX4_passes 0 = .ok (.aload_n 0, 1) := by decide +kernel
theorem dX4_passes_1 : decode cX4_passes 1 = .ok (.dup, 1) := by decide +kernel
theorem dX4_passes_2 : decode cX4_passes 2 = .ok (.getfield 167, 3) := by decide +kernel
theorem dX4_passes_5 : decode cX4_passes 5 = .ok (.iconst 1, 1) := by decide +kernel
theorem dX4_passes_6 : decode cX4_passes 6 = .ok (.iadd, 1) := by decide +kernel
theorem dX4_passes_7 : decode cX4_passes 7 = .ok (.putfield 167, 3) := by decide +kernel
theorem dX4_passes_10 : decode cX4_passes 10 = .ok (.aload_n 0, 1) := by decide +kernel
theorem dX4_passes_11 : decode cX4_passes 11 = .ok (.getfield 167, 3) := by decide +kernel
theorem dX4_passes_14 : decode cX4_passes 14 = .ok (.sipush 1440, 3) := by decide +kernel
theorem dX4_passes_17 : decode cX4_passes 17 = .ok (.irem, 1) := by decide +kernel
theorem dX4_passes_18 : decode cX4_passes 18 = .ok (.ifCond .ne 7, 3) := by decide +kernel
theorem dX4_passes_21 : decode cX4_passes 21 = .ok (.aload_n 0, 1) := by decide +kernel
theorem dX4_passes_22 : decode cX4_passes 22 = .ok (.invokevirtual 184, 3) := by decide +kernel
theorem dX4_passes_25 : decode cX4_passes 25 = .ok (.iconst 0, 1) := by decide +kernel
theorem dX4_passes_26 : decode cX4_passes 26 = .ok (.istore_n 1, 1) := by decide +kernel
theorem dX4_passes_27 : decode cX4_passes 27 = .ok (.iload_n 1, 1) := by decide +kernel
theorem dX4_passes_28 : decode cX4_passes 28 = .ok (.aload_n 0, 1) := by decide +kernel
theorem dX4_passes_29 : decode cX4_passes 29 = .ok (.getfield 98, 3) := by decide +kernel
theorem dX4_passes_32 : decode cX4_passes 32 = .ok (.if_icmp .ge 60, 3) := by decide +kernel
theorem dX4_passes_35 : decode cX4_passes 35 = .ok (.aload_n 0, 1) := by decide +kernel
theorem dX4_passes_36 : decode cX4_passes 36 = .ok (.getfield 60, 3) := by decide +kernel
theorem dX4_passes_39 : decode cX4_passes 39 = .ok (.iload_n 1, 1) := by decide +kernel
theorem dX4_passes_40 : decode cX4_passes 40 = .ok (.iaload, 1) := by decide +kernel
theorem dX4_passes_41 : decode cX4_passes 41 = .ok (.iconst 1, 1) := by decide +kernel
theorem dX4_passes_42 : decode cX4_passes 42 = .ok (.if_icmp .ne 21, 3) := by decide +kernel
theorem dX4_passes_45 : decode cX4_passes 45 = .ok (.aload_n 0, 1) := by decide +kernel
theorem dX4_passes_46 : decode cX4_passes 46 = .ok (.getfield 70, 3) := by decide +kernel
theorem dX4_passes_49 : decode cX4_passes 49 = .ok (.iload_n 1, 1) := by decide +kernel
theorem dX4_passes_50 : decode cX4_passes 50 = .ok (.iaload, 1) := by decide +kernel
theorem dX4_passes_51 : decode cX4_passes 51 = .ok (.aload_n 0, 1) := by decide +kernel
theorem dX4_passes_52 : decode cX4_passes 52 = .ok (.getfield 167, 3) := by decide +kernel
theorem dX4_passes_55 : decode cX4_passes 55 = .ok (.if_icmp .gt 8, 3) := by decide +kernel
theorem dX4_passes_58 : decode cX4_passes 58 = .ok (.aload_n 0, 1) := by decide +kernel
theorem dX4_passes_59 : decode cX4_passes 59 = .ok (.iload_n 1, 1) := by decide +kernel
theorem dX4_passes_60 : decode cX4_passes 60 = .ok (.invokevirtual 187, 3) := by decide +kernel
theorem dX4_passes_63 : decode cX4_passes 63 = .ok (.aload_n 0, 1) := by decide +kernel
theorem dX4_passes_64 : decode cX4_passes 64 = .ok (.getfield 60, 3) := by decide +kernel
theorem dX4_passes_67 : decode cX4_passes 67 = .ok (.iload_n 1, 1) := by decide +kernel
theorem dX4_passes_68 : decode cX4_passes 68 = .ok (.iaload, 1) := by decide +kernel
theorem dX4_passes_69 : decode cX4_passes 69 = .ok (.iconst 2, 1) := by decide +kernel
theorem dX4_passes_70 : decode cX4_passes 70 = .ok (.if_icmp .ne 16, 3) := by decide +kernel
theorem dX4_passes_73 : decode cX4_passes 73 = .ok (.aload_n 0, 1) := by decide +kernel
theorem dX4_passes_74 : decode cX4_passes 74 = .ok (.iload_n 1, 1) := by decide +kernel
theorem dX4_passes_75 : decode cX4_passes 75 = .ok (.invokevirtual 190, 3) := by decide +kernel
theorem dX4_passes_78 : decode cX4_passes 78 = .ok (.ifCond .ne 8, 3) := by decide +kernel
theorem dX4_passes_81 : decode cX4_passes 81 = .ok (.aload_n 0, 1) := by decide +kernel
theorem dX4_passes_82 : decode cX4_passes 82 = .ok (.iload_n 1, 1) := by decide +kernel
theorem dX4_passes_83 : decode cX4_passes 83 = .ok (.invokevirtual 193, 3) := by decide +kernel
theorem dX4_passes_86 : decode cX4_passes 86 = .ok (.iinc 1 1, 3) := by decide +kernel
theorem dX4_passes_89 : decode cX4_passes 89 = .ok (.goto (-62), 3) := by decide +kernel
theorem dX4_passes_92 : decode cX4_passes 92 = .ok (.return_, 1) := by decide +kernel
theorem dX4_pass_0 : decode cX4_pass 0 = .ok (.aload_n 0, 1) := by decide +kernel
theorem dX4_pass_1 : decode cX4_pass 1 = .ok (.iload_n 1, 1) := by decide +kernel
theorem dX4_pass_2 : decode cX4_pass 2 = .ok (.iconst 1, 1) := by decide +kernel
theorem dX4_pass_3 : decode cX4_pass 3 = .ok (.sipush 3000, 3) := by decide +kernel
theorem dX4_pass_6 : decode cX4_pass 6 = .ok (.invokestatic 94, 3) := by decide +kernel
theorem dX4_pass_9 : decode cX4_pass 9 = .ok (.ifCond .ne 7, 3) := by decide +kernel
theorem dX4_pass_12 : decode cX4_pass 12 = .ok (.iconst 1, 1) := by decide +kernel
theorem dX4_pass_13 : decode cX4_pass 13 = .ok (.goto 19, 3) := by decide +kernel
theorem dX4_pass_16 : decode cX4_pass 16 = .ok (.aload_n 0, 1) := by decide +kernel
theorem dX4_pass_17 : decode cX4_pass 17 = .ok (.getfield 167, 3) := by decide +kernel
theorem dX4_pass_20 : decode cX4_pass 20 = .ok (.iload_n 1, 1) := by decide +kernel
theorem dX4_pass_21 : decode cX4_pass 21 = .ok (.iadd, 1) := by decide +kernel
theorem dX4_pass_22 : decode cX4_pass 22 = .ok (.ldc 196, 2) := by decide +kernel
theorem dX4_pass_24 : decode cX4_pass 24 = .ok (.if_icmp .le 7, 3) := by decide +kernel
theorem dX4_pass_27 : decode cX4_pass 27 = .ok (.iconst 2, 1) := by decide +kernel
theorem dX4_pass_28 : decode cX4_pass 28 = .ok (.goto 4, 3) := by decide +kernel
theorem dX4_pass_31 : decode cX4_pass 31 = .ok (.iconst 0, 1) := by decide +kernel
theorem dX4_pass_32 : decode cX4_pass 32 = .ok (.invokevirtual 101, 3) := by decide +kernel
theorem dX4_pass_35 : decode cX4_pass 35 = .ok (.ifCond .eq 5, 3) := by decide +kernel
theorem dX4_pass_38 : decode cX4_pass 38 = .ok (.iconst 0, 1) := by decide +kernel
theorem dX4_pass_39 : decode cX4_pass 39 = .ok (.ireturn, 1) := by decide +kernel
theorem dX4_pass_40 : decode cX4_pass 40 = .ok (.iconst 0, 1) := by decide +kernel
theorem dX4_pass_41 : decode cX4_pass 41 = .ok (.istore_n 2, 1) := by decide +kernel
theorem dX4_pass_42 : decode cX4_pass 42 = .ok (.iload_n 2, 1) := by decide +kernel
theorem dX4_pass_43 : decode cX4_pass 43 = .ok (.iload_n 1, 1) := by decide +kernel
theorem dX4_pass_44 : decode cX4_pass 44 = .ok (.if_icmp .ge 13, 3) := by decide +kernel
theorem dX4_pass_47 : decode cX4_pass 47 = .ok (.aload_n 0, 1) := by decide +kernel
theorem dX4_pass_48 : decode cX4_pass 48 = .ok (.invokevirtual 197, 3) := by decide +kernel
theorem dX4_pass_51 : decode cX4_pass 51 = .ok (.iinc 2 1, 3) := by decide +kernel
theorem dX4_pass_54 : decode cX4_pass 54 = .ok (.goto (-12), 3) := by decide +kernel
theorem dX4_pass_57 : decode cX4_pass 57 = .ok (.aload_n 0, 1) := by decide +kernel
theorem dX4_pass_58 : decode cX4_pass 58 = .ok (.getfield 167, 3) := by decide +kernel
theorem dX4_pass_61 : decode cX4_pass 61 = .ok (.ireturn, 1) := by decide +kernel
theorem dX4_minute_0 : decode cX4_minute 0 = .ok (.aload_n 0, 1) := by decide +kernel
theorem dX4_minute_1 : decode cX4_minute 1 = .ok (.iconst 0, 1) := by decide +kernel
theorem dX4_minute_2 : decode cX4_minute 2 = .ok (.putfield 88, 3) := by decide +kernel
theorem dX4_minute_5 : decode cX4_minute 5 = .ok (.aload_n 0, 1) := by decide +kernel
theorem dX4_minute_6 : decode cX4_minute 6 = .ok (.getfield 167, 3) := by decide +kernel
theorem dX4_minute_9 : decode cX4_minute 9 = .ok (.ireturn, 1) := by decide +kernel
theorem dX4_told_0 : decode cX4_told 0 = .ok (.aload_n 0, 1) := by decide +kernel
theorem dX4_told_1 : decode cX4_told 1 = .ok (.aload_n 0, 1) := by decide +kernel
theorem dX4_told_2 : decode cX4_told 2 = .ok (.iload_n 1, 1) := by decide +kernel
theorem dX4_told_3 : decode cX4_told 3 = .ok (.invokevirtual 109, 3) := by decide +kernel
theorem dX4_told_6 : decode cX4_told 6 = .ok (.ifCond .ne 7, 3) := by decide +kernel
theorem dX4_told_9 : decode cX4_told 9 = .ok (.iconst 1, 1) := by decide +kernel
theorem dX4_told_10 : decode cX4_told 10 = .ok (.goto 18, 3) := by decide +kernel
theorem dX4_told_13 : decode cX4_told 13 = .ok (.iload_n 2, 1) := by decide +kernel
theorem dX4_told_14 : decode cX4_told 14 = .ok (.iconst 0, 1) := by decide +kernel
theorem dX4_told_15 : decode cX4_told 15 = .ok (.bipush 7, 2) := by decide +kernel
theorem dX4_told_17 : decode cX4_told 17 = .ok (.invokestatic 94, 3) := by decide +kernel
theorem dX4_told_20 : decode cX4_told 20 = .ok (.ifCond .eq 7, 3) := by decide +kernel
theorem dX4_told_23 : decode cX4_told 23 = .ok (.iconst 0, 1) := by decide +kernel
theorem dX4_told_24 : decode cX4_told 24 = .ok (.goto 4, 3) := by decide +kernel
theorem dX4_told_27 : decode cX4_told 27 = .ok (.iconst 2, 1) := by decide +kernel
theorem dX4_told_28 : decode cX4_told 28 = .ok (.invokevirtual 101, 3) := by decide +kernel
theorem dX4_told_31 : decode cX4_told 31 = .ok (.ifCond .eq 5, 3) := by decide +kernel
theorem dX4_told_34 : decode cX4_told 34 = .ok (.iconst 0, 1) := by decide +kernel
theorem dX4_told_35 : decode cX4_told 35 = .ok (.ireturn, 1) := by decide +kernel
theorem dX4_told_36 : decode cX4_told 36 = .ok (.iload_n 2, 1) := by decide +kernel
theorem dX4_told_37 : decode cX4_told 37 = .ok (.tableswitch 92 0 6 #[43, 50, 57, 64, 71, 78, 85], 43) := by decide +kernel
theorem dX4_told_80 : decode cX4_told 80 = .ok (.aload_n 0, 1) := by decide +kernel
theorem dX4_told_81 : decode cX4_told 81 = .ok (.getfield 23, 3) := by decide +kernel
theorem dX4_told_84 : decode cX4_told 84 = .ok (.iload_n 1, 1) := by decide +kernel
theorem dX4_told_85 : decode cX4_told 85 = .ok (.iaload, 1) := by decide +kernel
theorem dX4_told_86 : decode cX4_told 86 = .ok (.ireturn, 1) := by decide +kernel
theorem dX4_told_87 : decode cX4_told 87 = .ok (.aload_n 0, 1) := by decide +kernel
theorem dX4_told_88 : decode cX4_told 88 = .ok (.getfield 26, 3) := by decide +kernel
theorem dX4_told_91 : decode cX4_told 91 = .ok (.iload_n 1, 1) := by decide +kernel
theorem dX4_told_92 : decode cX4_told 92 = .ok (.iaload, 1) := by decide +kernel
theorem dX4_told_93 : decode cX4_told 93 = .ok (.ireturn, 1) := by decide +kernel
theorem dX4_told_94 : decode cX4_told 94 = .ok (.aload_n 0, 1) := by decide +kernel
theorem dX4_told_95 : decode cX4_told 95 = .ok (.getfield 29, 3) := by decide +kernel
theorem dX4_told_98 : decode cX4_told 98 = .ok (.iload_n 1, 1) := by decide +kernel
theorem dX4_told_99 : decode cX4_told 99 = .ok (.iaload, 1) := by decide +kernel
theorem dX4_told_100 : decode cX4_told 100 = .ok (.ireturn, 1) := by decide +kernel
theorem dX4_told_101 : decode cX4_told 101 = .ok (.aload_n 0, 1) := by decide +kernel
theorem dX4_told_102 : decode cX4_told 102 = .ok (.getfield 32, 3) := by decide +kernel
theorem dX4_told_105 : decode cX4_told 105 = .ok (.iload_n 1, 1) := by decide +kernel
theorem dX4_told_106 : decode cX4_told 106 = .ok (.iaload, 1) := by decide +kernel
theorem dX4_told_107 : decode cX4_told 107 = .ok (.ireturn, 1) := by decide +kernel
theorem dX4_told_108 : decode cX4_told 108 = .ok (.aload_n 0, 1) := by decide +kernel
theorem dX4_told_109 : decode cX4_told 109 = .ok (.getfield 35, 3) := by decide +kernel
theorem dX4_told_112 : decode cX4_told 112 = .ok (.iload_n 1, 1) := by decide +kernel
theorem dX4_told_113 : decode cX4_told 113 = .ok (.iaload, 1) := by decide +kernel
theorem dX4_told_114 : decode cX4_told 114 = .ok (.ireturn, 1) := by decide +kernel
theorem dX4_told_115 : decode cX4_told 115 = .ok (.aload_n 0, 1) := by decide +kernel
theorem dX4_told_116 : decode cX4_told 116 = .ok (.getfield 38, 3) := by decide +kernel
theorem dX4_told_119 : decode cX4_told 119 = .ok (.iload_n 1, 1) := by decide +kernel
theorem dX4_told_120 : decode cX4_told 120 = .ok (.iaload, 1) := by decide +kernel
theorem dX4_told_121 : decode cX4_told 121 = .ok (.ireturn, 1) := by decide +kernel
theorem dX4_told_122 : decode cX4_told 122 = .ok (.aload_n 0, 1) := by decide +kernel
theorem dX4_told_123 : decode cX4_told 123 = .ok (.getfield 41, 3) := by decide +kernel
theorem dX4_told_126 : decode cX4_told 126 = .ok (.iload_n 1, 1) := by decide +kernel
theorem dX4_told_127 : decode cX4_told 127 = .ok (.iaload, 1) := by decide +kernel
theorem dX4_told_128 : decode cX4_told 128 = .ok (.ireturn, 1) := by decide +kernel
theorem dX4_told_129 : decode cX4_told 129 = .ok (.aload_n 0, 1) := by decide +kernel
theorem dX4_told_130 : decode cX4_told 130 = .ok (.iload_n 1, 1) := by decide +kernel
theorem dX4_told_131 : decode cX4_told 131 = .ok (.invokevirtual 200, 3) := by decide +kernel
theorem dX4_told_134 : decode cX4_told 134 = .ok (.ireturn, 1) := by decide +kernel
theorem dX4_many_0 : decode cX4_many 0 = .ok (.iconst 0, 1) := by decide +kernel
theorem dX4_many_1 : decode cX4_many 1 = .ok (.istore_n 2, 1) := by decide +kernel
theorem dX4_many_2 : decode cX4_many 2 = .ok (.iconst 0, 1) := by decide +kernel
theorem dX4_many_3 : decode cX4_many 3 = .ok (.istore_n 3, 1) := by decide +kernel
theorem dX4_many_4 : decode cX4_many 4 = .ok (.iload_n 3, 1) := by decide +kernel
theorem dX4_many_5 : decode cX4_many 5 = .ok (.aload_n 0, 1) := by decide +kernel
theorem dX4_many_6 : decode cX4_many 6 = .ok (.getfield 98, 3) := by decide +kernel
theorem dX4_many_9 : decode cX4_many 9 = .ok (.if_icmp .ge 37, 3) := by decide +kernel
theorem dX4_many_12 : decode cX4_many 12 = .ok (.iload_n 2, 1) := by decide +kernel
theorem dX4_many_13 : decode cX4_many 13 = .ok (.aload_n 0, 1) := by decide +kernel
theorem dX4_many_14 : decode cX4_many 14 = .ok (.getfield 60, 3) := by decide +kernel
theorem dX4_many_17 : decode cX4_many 17 = .ok (.iload_n 3, 1) := by decide +kernel
theorem dX4_many_18 : decode cX4_many 18 = .ok (.iaload, 1) := by decide +kernel
theorem dX4_many_19 : decode cX4_many 19 = .ok (.iconst 1, 1) := by decide +kernel
theorem dX4_many_20 : decode cX4_many 20 = .ok (.if_icmp .ne 17, 3) := by decide +kernel
theorem dX4_many_23 : decode cX4_many 23 = .ok (.aload_n 0, 1) := by decide +kernel
theorem dX4_many_24 : decode cX4_many 24 = .ok (.getfield 63, 3) := by decide +kernel
theorem dX4_many_27 : decode cX4_many 27 = .ok (.iload_n 3, 1) := by decide +kernel
theorem dX4_many_28 : decode cX4_many 28 = .ok (.iaload, 1) := by decide +kernel
theorem dX4_many_29 : decode cX4_many 29 = .ok (.iload_n 1, 1) := by decide +kernel
theorem dX4_many_30 : decode cX4_many 30 = .ok (.if_icmp .ne 7, 3) := by decide +kernel
theorem dX4_many_33 : decode cX4_many 33 = .ok (.iconst 1, 1) := by decide +kernel
theorem dX4_many_34 : decode cX4_many 34 = .ok (.goto 4, 3) := by decide +kernel
theorem dX4_many_37 : decode cX4_many 37 = .ok (.iconst 0, 1) := by decide +kernel
theorem dX4_many_38 : decode cX4_many 38 = .ok (.iadd, 1) := by decide +kernel
theorem dX4_many_39 : decode cX4_many 39 = .ok (.istore_n 2, 1) := by decide +kernel
theorem dX4_many_40 : decode cX4_many 40 = .ok (.iinc 3 1, 3) := by decide +kernel
theorem dX4_many_43 : decode cX4_many 43 = .ok (.goto (-39), 3) := by decide +kernel
theorem dX4_many_46 : decode cX4_many 46 = .ok (.iload_n 2, 1) := by decide +kernel
theorem dX4_many_47 : decode cX4_many 47 = .ok (.ireturn, 1) := by decide +kernel
theorem dX4_thickness_0 : decode cX4_thickness 0 = .ok (.aload_n 0, 1) := by decide +kernel
theorem dX4_thickness_1 : decode cX4_thickness 1 = .ok (.aload_n 0, 1) := by decide +kernel
theorem dX4_thickness_2 : decode cX4_thickness 2 = .ok (.iload_n 1, 1) := by decide +kernel
theorem dX4_thickness_3 : decode cX4_thickness 3 = .ok (.invokevirtual 109, 3) := by decide +kernel
theorem dX4_thickness_6 : decode cX4_thickness 6 = .ok (.ifCond .eq 7, 3) := by decide +kernel
theorem dX4_thickness_9 : decode cX4_thickness 9 = .ok (.iconst 0, 1) := by decide +kernel
theorem dX4_thickness_10 : decode cX4_thickness 10 = .ok (.goto 4, 3) := by decide +kernel
theorem dX4_thickness_13 : decode cX4_thickness 13 = .ok (.iconst 1, 1) := by decide +kernel
theorem dX4_thickness_14 : decode cX4_thickness 14 = .ok (.invokevirtual 101, 3) := by decide +kernel
theorem dX4_thickness_17 : decode cX4_thickness 17 = .ok (.ifCond .eq 7, 3) := by decide +kernel
theorem dX4_thickness_20 : decode cX4_thickness 20 = .ok (.dconst 0, 1) := by decide +kernel
theorem dX4_thickness_21 : decode cX4_thickness 21 = .ok (.goto 21, 3) := by decide +kernel
theorem dX4_thickness_24 : decode cX4_thickness 24 = .ok (.iload_n 2, 1) := by decide +kernel
theorem dX4_thickness_25 : decode cX4_thickness 25 = .ok (.ifCond .eq 12, 3) := by decide +kernel
theorem dX4_thickness_28 : decode cX4_thickness 28 = .ok (.aload_n 0, 1) := by decide +kernel
theorem dX4_thickness_29 : decode cX4_thickness 29 = .ok (.getfield 44, 3) := by decide +kernel
theorem dX4_thickness_32 : decode cX4_thickness 32 = .ok (.iload_n 1, 1) := by decide +kernel
theorem dX4_thickness_33 : decode cX4_thickness 33 = .ok (.daload, 1) := by decide +kernel
theorem dX4_thickness_34 : decode cX4_thickness 34 = .ok (.goto 8, 3) := by decide +kernel
theorem dX4_thickness_37 : decode cX4_thickness 37 = .ok (.aload_n 0, 1) := by decide +kernel
theorem dX4_thickness_38 : decode cX4_thickness 38 = .ok (.iload_n 1, 1) := by decide +kernel
theorem dX4_thickness_39 : decode cX4_thickness 39 = .ok (.invokevirtual 117, 3) := by decide +kernel
theorem dX4_thickness_42 : decode cX4_thickness 42 = .ok (.dreturn, 1) := by decide +kernel
theorem dX4_bears_0 : decode cX4_bears 0 = .ok (.aload_n 0, 1) := by decide +kernel
theorem dX4_bears_1 : decode cX4_bears 1 = .ok (.aload_n 0, 1) := by decide +kernel
theorem dX4_bears_2 : decode cX4_bears 2 = .ok (.iload_n 1, 1) := by decide +kernel
theorem dX4_bears_3 : decode cX4_bears 3 = .ok (.invokevirtual 109, 3) := by decide +kernel
theorem dX4_bears_6 : decode cX4_bears 6 = .ok (.ifCond .eq 7, 3) := by decide +kernel
theorem dX4_bears_9 : decode cX4_bears 9 = .ok (.iconst 0, 1) := by decide +kernel
theorem dX4_bears_10 : decode cX4_bears 10 = .ok (.goto 4, 3) := by decide +kernel
theorem dX4_bears_13 : decode cX4_bears 13 = .ok (.iconst 1, 1) := by decide +kernel
theorem dX4_bears_14 : decode cX4_bears 14 = .ok (.invokevirtual 101, 3) := by decide +kernel
theorem dX4_bears_17 : decode cX4_bears 17 = .ok (.ifCond .eq 7, 3) := by decide +kernel
theorem dX4_bears_20 : decode cX4_bears 20 = .ok (.iconst 0, 1) := by decide +kernel
theorem dX4_bears_21 : decode cX4_bears 21 = .ok (.goto 26, 3) := by decide +kernel
theorem dX4_bears_24 : decode cX4_bears 24 = .ok (.aload_n 0, 1) := by decide +kernel
theorem dX4_bears_25 : decode cX4_bears 25 = .ok (.iload_n 1, 1) := by decide +kernel
theorem dX4_bears_26 : decode cX4_bears 26 = .ok (.iload_n 2, 1) := by decide +kernel
theorem dX4_bears_27 : decode cX4_bears 27 = .ok (.ifCond .eq 12, 3) := by decide +kernel
theorem dX4_bears_30 : decode cX4_bears 30 = .ok (.aload_n 0, 1) := by decide +kernel
theorem dX4_bears_31 : decode cX4_bears 31 = .ok (.getfield 44, 3) := by decide +kernel
theorem dX4_bears_34 : decode cX4_bears 34 = .ok (.iload_n 1, 1) := by decide +kernel
theorem dX4_bears_35 : decode cX4_bears 35 = .ok (.daload, 1) := by decide +kernel
theorem dX4_bears_36 : decode cX4_bears 36 = .ok (.goto 8, 3) := by decide +kernel
theorem dX4_bears_39 : decode cX4_bears 39 = .ok (.aload_n 0, 1) := by decide +kernel
theorem dX4_bears_40 : decode cX4_bears 40 = .ok (.iload_n 1, 1) := by decide +kernel
theorem dX4_bears_41 : decode cX4_bears 41 = .ok (.invokevirtual 117, 3) := by decide +kernel
theorem dX4_bears_44 : decode cX4_bears 44 = .ok (.invokevirtual 177, 3) := by decide +kernel
theorem dX4_bears_47 : decode cX4_bears 47 = .ok (.ireturn, 1) := by decide +kernel
theorem dX4_ofVehicle_0 : decode cX4_ofVehicle 0 = .ok (.aload_n 0, 1) := by decide +kernel
theorem dX4_ofVehicle_1 : decode cX4_ofVehicle 1 = .ok (.aload_n 0, 1) := by decide +kernel
theorem dX4_ofVehicle_2 : decode cX4_ofVehicle 2 = .ok (.iload_n 1, 1) := by decide +kernel
theorem dX4_ofVehicle_3 : decode cX4_ofVehicle 3 = .ok (.invokevirtual 123, 3) := by decide +kernel
theorem dX4_ofVehicle_6 : decode cX4_ofVehicle 6 = .ok (.ifCond .ne 7, 3) := by decide +kernel
theorem dX4_ofVehicle_9 : decode cX4_ofVehicle 9 = .ok (.iconst 1, 1) := by decide +kernel
theorem dX4_ofVehicle_10 : decode cX4_ofVehicle 10 = .ok (.goto 18, 3) := by decide +kernel
theorem dX4_ofVehicle_13 : decode cX4_ofVehicle 13 = .ok (.iload_n 2, 1) := by decide +kernel
theorem dX4_ofVehicle_14 : decode cX4_ofVehicle 14 = .ok (.iconst 0, 1) := by decide +kernel
theorem dX4_ofVehicle_15 : decode cX4_ofVehicle 15 = .ok (.bipush 6, 2) := by decide +kernel
theorem dX4_ofVehicle_17 : decode cX4_ofVehicle 17 = .ok (.invokestatic 94, 3) := by decide +kernel
theorem dX4_ofVehicle_20 : decode cX4_ofVehicle 20 = .ok (.ifCond .eq 7, 3) := by decide +kernel
theorem dX4_ofVehicle_23 : decode cX4_ofVehicle 23 = .ok (.iconst 0, 1) := by decide +kernel
theorem dX4_ofVehicle_24 : decode cX4_ofVehicle 24 = .ok (.goto 4, 3) := by decide +kernel
theorem dX4_ofVehicle_27 : decode cX4_ofVehicle 27 = .ok (.iconst 2, 1) := by decide +kernel
theorem dX4_ofVehicle_28 : decode cX4_ofVehicle 28 = .ok (.invokevirtual 101, 3) := by decide +kernel
theorem dX4_ofVehicle_31 : decode cX4_ofVehicle 31 = .ok (.ifCond .eq 5, 3) := by decide +kernel
theorem dX4_ofVehicle_34 : decode cX4_ofVehicle 34 = .ok (.iconst 0, 1) := by decide +kernel
theorem dX4_ofVehicle_35 : decode cX4_ofVehicle 35 = .ok (.ireturn, 1) := by decide +kernel
theorem dX4_ofVehicle_36 : decode cX4_ofVehicle 36 = .ok (.iload_n 2, 1) := by decide +kernel
theorem dX4_ofVehicle_37 : decode cX4_ofVehicle 37 = .ok (.tableswitch 88 0 5 #[39, 46, 52, 59, 66, 73], 39) := by decide +kernel
theorem dX4_ofVehicle_76 : decode cX4_ofVehicle 76 = .ok (.aload_n 0, 1) := by decide +kernel
theorem dX4_ofVehicle_77 : decode cX4_ofVehicle 77 = .ok (.getfield 60, 3) := by decide +kernel
theorem dX4_ofVehicle_80 : decode cX4_ofVehicle 80 = .ok (.iload_n 1, 1) := by decide +kernel
theorem dX4_ofVehicle_81 : decode cX4_ofVehicle 81 = .ok (.iaload, 1) := by decide +kernel
theorem dX4_ofVehicle_82 : decode cX4_ofVehicle 82 = .ok (.ireturn, 1) := by decide +kernel
theorem dX4_ofVehicle_83 : decode cX4_ofVehicle 83 = .ok (.aload_n 0, 1) := by decide +kernel
theorem dX4_ofVehicle_84 : decode cX4_ofVehicle 84 = .ok (.iload_n 1, 1) := by decide +kernel
theorem dX4_ofVehicle_85 : decode cX4_ofVehicle 85 = .ok (.invokevirtual 129, 3) := by decide +kernel
theorem dX4_ofVehicle_88 : decode cX4_ofVehicle 88 = .ok (.ireturn, 1) := by decide +kernel
theorem dX4_ofVehicle_89 : decode cX4_ofVehicle 89 = .ok (.aload_n 0, 1) := by decide +kernel
theorem dX4_ofVehicle_90 : decode cX4_ofVehicle 90 = .ok (.getfield 73, 3) := by decide +kernel
theorem dX4_ofVehicle_93 : decode cX4_ofVehicle 93 = .ok (.iload_n 1, 1) := by decide +kernel
theorem dX4_ofVehicle_94 : decode cX4_ofVehicle 94 = .ok (.iaload, 1) := by decide +kernel
theorem dX4_ofVehicle_95 : decode cX4_ofVehicle 95 = .ok (.ireturn, 1) := by decide +kernel
theorem dX4_ofVehicle_96 : decode cX4_ofVehicle 96 = .ok (.aload_n 0, 1) := by decide +kernel
theorem dX4_ofVehicle_97 : decode cX4_ofVehicle 97 = .ok (.getfield 76, 3) := by decide +kernel
theorem dX4_ofVehicle_100 : decode cX4_ofVehicle 100 = .ok (.iload_n 1, 1) := by decide +kernel
theorem dX4_ofVehicle_101 : decode cX4_ofVehicle 101 = .ok (.iaload, 1) := by decide +kernel
theorem dX4_ofVehicle_102 : decode cX4_ofVehicle 102 = .ok (.ireturn, 1) := by decide +kernel
theorem dX4_ofVehicle_103 : decode cX4_ofVehicle 103 = .ok (.aload_n 0, 1) := by decide +kernel
theorem dX4_ofVehicle_104 : decode cX4_ofVehicle 104 = .ok (.getfield 63, 3) := by decide +kernel
theorem dX4_ofVehicle_107 : decode cX4_ofVehicle 107 = .ok (.iload_n 1, 1) := by decide +kernel
theorem dX4_ofVehicle_108 : decode cX4_ofVehicle 108 = .ok (.iaload, 1) := by decide +kernel
theorem dX4_ofVehicle_109 : decode cX4_ofVehicle 109 = .ok (.ireturn, 1) := by decide +kernel
theorem dX4_ofVehicle_110 : decode cX4_ofVehicle 110 = .ok (.aload_n 0, 1) := by decide +kernel
theorem dX4_ofVehicle_111 : decode cX4_ofVehicle 111 = .ok (.getfield 66, 3) := by decide +kernel
theorem dX4_ofVehicle_114 : decode cX4_ofVehicle 114 = .ok (.iload_n 1, 1) := by decide +kernel
theorem dX4_ofVehicle_115 : decode cX4_ofVehicle 115 = .ok (.baload, 1) := by decide +kernel
theorem dX4_ofVehicle_116 : decode cX4_ofVehicle 116 = .ok (.ifCond .eq 7, 3) := by decide +kernel
theorem dX4_ofVehicle_119 : decode cX4_ofVehicle 119 = .ok (.iconst 1, 1) := by decide +kernel
theorem dX4_ofVehicle_120 : decode cX4_ofVehicle 120 = .ok (.goto 4, 3) := by decide +kernel
theorem dX4_ofVehicle_123 : decode cX4_ofVehicle 123 = .ok (.iconst 0, 1) := by decide +kernel
theorem dX4_ofVehicle_124 : decode cX4_ofVehicle 124 = .ok (.ireturn, 1) := by decide +kernel
theorem dX4_ofVehicle_125 : decode cX4_ofVehicle 125 = .ok (.aload_n 0, 1) := by decide +kernel
theorem dX4_ofVehicle_126 : decode cX4_ofVehicle 126 = .ok (.getfield 60, 3) := by decide +kernel
theorem dX4_ofVehicle_129 : decode cX4_ofVehicle 129 = .ok (.iload_n 1, 1) := by decide +kernel
theorem dX4_ofVehicle_130 : decode cX4_ofVehicle 130 = .ok (.iaload, 1) := by decide +kernel
theorem dX4_ofVehicle_131 : decode cX4_ofVehicle 131 = .ok (.iconst 1, 1) := by decide +kernel
theorem dX4_ofVehicle_132 : decode cX4_ofVehicle 132 = .ok (.if_icmp .ne 12, 3) := by decide +kernel
theorem dX4_ofVehicle_135 : decode cX4_ofVehicle 135 = .ok (.aload_n 0, 1) := by decide +kernel
theorem dX4_ofVehicle_136 : decode cX4_ofVehicle 136 = .ok (.getfield 70, 3) := by decide +kernel
theorem dX4_ofVehicle_139 : decode cX4_ofVehicle 139 = .ok (.iload_n 1, 1) := by decide +kernel
theorem dX4_ofVehicle_140 : decode cX4_ofVehicle 140 = .ok (.iaload, 1) := by decide +kernel
theorem dX4_ofVehicle_141 : decode cX4_ofVehicle 141 = .ok (.goto 4, 3) := by decide +kernel
theorem dX4_ofVehicle_144 : decode cX4_ofVehicle 144 = .ok (.iconst (-1), 1) := by decide +kernel
theorem dX4_ofVehicle_145 : decode cX4_ofVehicle 145 = .ok (.ireturn, 1) := by decide +kernel
theorem dX4_why_0 : decode cX4_why 0 = .ok (.aload_n 0, 1) := by decide +kernel
theorem dX4_why_1 : decode cX4_why 1 = .ok (.aload_n 0, 1) := by decide +kernel
theorem dX4_why_2 : decode cX4_why 2 = .ok (.iload_n 1, 1) := by decide +kernel
theorem dX4_why_3 : decode cX4_why 3 = .ok (.invokevirtual 123, 3) := by decide +kernel
theorem dX4_why_6 : decode cX4_why 6 = .ok (.ifCond .eq 7, 3) := by decide +kernel
theorem dX4_why_9 : decode cX4_why 9 = .ok (.iconst 0, 1) := by decide +kernel
theorem dX4_why_10 : decode cX4_why 10 = .ok (.goto 4, 3) := by decide +kernel
theorem dX4_why_13 : decode cX4_why 13 = .ok (.iconst 1, 1) := by decide +kernel
theorem dX4_why_14 : decode cX4_why 14 = .ok (.invokevirtual 101, 3) := by decide +kernel
theorem dX4_why_17 : decode cX4_why 17 = .ok (.ifCond .eq 7, 3) := by decide +kernel
theorem dX4_why_20 : decode cX4_why 20 = .ok (.iconst 0, 1) := by decide +kernel
theorem dX4_why_21 : decode cX4_why 21 = .ok (.goto 22, 3) := by decide +kernel
theorem dX4_why_24 : decode cX4_why 24 = .ok (.aload_n 0, 1) := by decide +kernel
theorem dX4_why_25 : decode cX4_why 25 = .ok (.getfield 60, 3) := by decide +kernel
theorem dX4_why_28 : decode cX4_why 28 = .ok (.iload_n 1, 1) := by decide +kernel
theorem dX4_why_29 : decode cX4_why 29 = .ok (.iaload, 1) := by decide +kernel
theorem dX4_why_30 : decode cX4_why 30 = .ok (.iconst 2, 1) := by decide +kernel
theorem dX4_why_31 : decode cX4_why 31 = .ok (.if_icmp .ne 11, 3) := by decide +kernel
theorem dX4_why_34 : decode cX4_why 34 = .ok (.aload_n 0, 1) := by decide +kernel
theorem dX4_why_35 : decode cX4_why 35 = .ok (.iload_n 1, 1) := by decide +kernel
theorem dX4_why_36 : decode cX4_why 36 = .ok (.invokevirtual 190, 3) := by decide +kernel
theorem dX4_why_39 : decode cX4_why 39 = .ok (.goto 4, 3) := by decide +kernel
theorem dX4_why_42 : decode cX4_why 42 = .ok (.iconst (-1), 1) := by decide +kernel
theorem dX4_why_43 : decode cX4_why 43 = .ok (.ireturn, 1) := by decide +kernel
theorem dX4_speed_0 : decode cX4_speed 0 = .ok (.aload_n 0, 1) := by decide +kernel
theorem dX4_speed_1 : decode cX4_speed 1 = .ok (.aload_n 0, 1) := by decide +kernel
theorem dX4_speed_2 : decode cX4_speed 2 = .ok (.iload_n 1, 1) := by decide +kernel
theorem dX4_speed_3 : decode cX4_speed 3 = .ok (.invokevirtual 123, 3) := by decide +kernel
theorem dX4_speed_6 : decode cX4_speed 6 = .ok (.ifCond .eq 15, 3) := by decide +kernel
theorem dX4_speed_9 : decode cX4_speed 9 = .ok (.aload_n 0, 1) := by decide +kernel
theorem dX4_speed_10 : decode cX4_speed 10 = .ok (.iload_n 2, 1) := by decide +kernel
theorem dX4_speed_11 : decode cX4_speed 11 = .ok (.invokevirtual 109, 3) := by decide +kernel
theorem dX4_speed_14 : decode cX4_speed 14 = .ok (.ifCond .eq 7, 3) := by decide +kernel
theorem dX4_speed_17 : decode cX4_speed 17 = .ok (.iconst 0, 1) := by decide +kernel
theorem dX4_speed_18 : decode cX4_speed 18 = .ok (.goto 4, 3) := by decide +kernel
theorem dX4_speed_21 : decode cX4_speed 21 = .ok (.iconst 1, 1) := by decide +kernel
theorem dX4_speed_22 : decode cX4_speed 22 = .ok (.invokevirtual 101, 3) := by decide +kernel
theorem dX4_speed_25 : decode cX4_speed 25 = .ok (.ifCond .eq 7, 3) := by decide +kernel
theorem dX4_speed_28 : decode cX4_speed 28 = .ok (.iconst 0, 1) := by decide +kernel
theorem dX4_speed_29 : decode cX4_speed 29 = .ok (.goto 9, 3) := by decide +kernel
theorem dX4_speed_32 : decode cX4_speed 32 = .ok (.aload_n 0, 1) := by decide +kernel
theorem dX4_speed_33 : decode cX4_speed 33 = .ok (.iload_n 1, 1) := by decide +kernel
theorem dX4_speed_34 : decode cX4_speed 34 = .ok (.iload_n 2, 1) := by decide +kernel
theorem dX4_speed_35 : decode cX4_speed 35 = .ok (.invokevirtual 160, 3) := by decide +kernel
theorem dX4_speed_38 : decode cX4_speed 38 = .ok (.ireturn, 1) := by decide +kernel
theorem dX4_minutes_0 : decode cX4_minutes 0 = .ok (.aload_n 0, 1) := by decide +kernel
theorem dX4_minutes_1 : decode cX4_minutes 1 = .ok (.aload_n 0, 1) := by decide +kernel
theorem dX4_minutes_2 : decode cX4_minutes 2 = .ok (.iload_n 1, 1) := by decide +kernel
theorem dX4_minutes_3 : decode cX4_minutes 3 = .ok (.invokevirtual 123, 3) := by decide +kernel
theorem dX4_minutes_6 : decode cX4_minutes 6 = .ok (.ifCond .eq 15, 3) := by decide +kernel
theorem dX4_minutes_9 : decode cX4_minutes 9 = .ok (.aload_n 0, 1) := by decide +kernel
theorem dX4_minutes_10 : decode cX4_minutes 10 = .ok (.iload_n 2, 1) := by decide +kernel
theorem dX4_minutes_11 : decode cX4_minutes 11 = .ok (.invokevirtual 109, 3) := by decide +kernel
theorem dX4_minutes_14 : decode cX4_minutes 14 = .ok (.ifCond .eq 7, 3) := by decide +kernel
theorem dX4_minutes_17 : decode cX4_minutes 17 = .ok (.iconst 0, 1) := by decide +kernel
theorem dX4_minutes_18 : decode cX4_minutes 18 = .ok (.goto 4, 3) := by decide +kernel
theorem dX4_minutes_21 : decode cX4_minutes 21 = .ok (.iconst 1, 1) := by decide +kernel
theorem dX4_minutes_22 : decode cX4_minutes 22 = .ok (.invokevirtual 101, 3) := by decide +kernel
theorem dX4_minutes_25 : decode cX4_minutes 25 = .ok (.ifCond .eq 7, 3) := by decide +kernel
theorem dX4_minutes_28 : decode cX4_minutes 28 = .ok (.iconst 0, 1) := by decide +kernel
theorem dX4_minutes_29 : decode cX4_minutes 29 = .ok (.goto 9, 3) := by decide +kernel
theorem dX4_minutes_32 : decode cX4_minutes 32 = .ok (.aload_n 0, 1) := by decide +kernel
theorem dX4_minutes_33 : decode cX4_minutes 33 = .ok (.iload_n 1, 1) := by decide +kernel
theorem dX4_minutes_34 : decode cX4_minutes 34 = .ok (.iload_n 2, 1) := by decide +kernel
theorem dX4_minutes_35 : decode cX4_minutes 35 = .ok (.invokevirtual 181, 3) := by decide +kernel
theorem dX4_minutes_38 : decode cX4_minutes 38 = .ok (.ireturn, 1) := by decide +kernel
theorem dX4_minutesAnew_0 : decode cX4_minutesAnew 0 = .ok (.aload_n 0, 1) := by decide +kernel
theorem dX4_minutesAnew_1 : decode cX4_minutesAnew 1 = .ok (.iload_n 1, 1) := by decide +kernel
theorem dX4_minutesAnew_2 : decode cX4_minutesAnew 2 = .ok (.iload_n 2, 1) := by decide +kernel
theorem dX4_minutesAnew_3 : decode cX4_minutesAnew 3 = .ok (.invokevirtual 203, 3) := by decide +kernel
theorem dX4_minutesAnew_6 : decode cX4_minutesAnew 6 = .ok (.ireturn, 1) := by decide +kernel
theorem dX4_carried_0 : decode cX4_carried 0 = .ok (.iconst 0, 1) := by decide +kernel
theorem dX4_carried_1 : decode cX4_carried 1 = .ok (.istore_n 3, 1) := by decide +kernel
theorem dX4_carried_2 : decode cX4_carried 2 = .ok (.iconst 0, 1) := by decide +kernel
theorem dX4_carried_3 : decode cX4_carried 3 = .ok (.istore 4, 2) := by decide +kernel
theorem dX4_carried_5 : decode cX4_carried 5 = .ok (.iload 4, 2) := by decide +kernel
theorem dX4_carried_7 : decode cX4_carried 7 = .ok (.aload_n 0, 1) := by decide +kernel
theorem dX4_carried_8 : decode cX4_carried 8 = .ok (.getfield 98, 3) := by decide +kernel
theorem dX4_carried_11 : decode cX4_carried 11 = .ok (.if_icmp .ge 54, 3) := by decide +kernel
theorem dX4_carried_14 : decode cX4_carried 14 = .ok (.iload_n 3, 1) := by decide +kernel
theorem dX4_carried_15 : decode cX4_carried 15 = .ok (.aload_n 0, 1) := by decide +kernel
theorem dX4_carried_16 : decode cX4_carried 16 = .ok (.getfield 76, 3) := by decide +kernel
theorem dX4_carried_19 : decode cX4_carried 19 = .ok (.iload 4, 2) := by decide +kernel
theorem dX4_carried_21 : decode cX4_carried 21 = .ok (.iaload, 1) := by decide +kernel
theorem dX4_carried_22 : decode cX4_carried 22 = .ok (.iload_n 1, 1) := by decide +kernel
theorem dX4_carried_23 : decode cX4_carried 23 = .ok (.if_icmp .ne 33, 3) := by decide +kernel
theorem dX4_carried_26 : decode cX4_carried 26 = .ok (.aload_n 0, 1) := by decide +kernel
theorem dX4_carried_27 : decode cX4_carried 27 = .ok (.getfield 60, 3) := by decide +kernel
theorem dX4_carried_30 : decode cX4_carried 30 = .ok (.iload 4, 2) := by decide +kernel
theorem dX4_carried_32 : decode cX4_carried 32 = .ok (.iaload, 1) := by decide +kernel
theorem dX4_carried_33 : decode cX4_carried 33 = .ok (.iconst 4, 1) := by decide +kernel
theorem dX4_carried_34 : decode cX4_carried 34 = .ok (.if_icmp .ne 7, 3) := by decide +kernel
theorem dX4_carried_37 : decode cX4_carried 37 = .ok (.iconst 1, 1) := by decide +kernel
theorem dX4_carried_38 : decode cX4_carried 38 = .ok (.goto 4, 3) := by decide +kernel
theorem dX4_carried_41 : decode cX4_carried 41 = .ok (.iconst 0, 1) := by decide +kernel
theorem dX4_carried_42 : decode cX4_carried 42 = .ok (.iload_n 2, 1) := by decide +kernel
theorem dX4_carried_43 : decode cX4_carried 43 = .ok (.if_icmp .ne 13, 3) := by decide +kernel
theorem dX4_carried_46 : decode cX4_carried 46 = .ok (.aload_n 0, 1) := by decide +kernel
theorem dX4_carried_47 : decode cX4_carried 47 = .ok (.getfield 73, 3) := by decide +kernel
theorem dX4_carried_50 : decode cX4_carried 50 = .ok (.iload 4, 2) := by decide +kernel
theorem dX4_carried_52 : decode cX4_carried 52 = .ok (.iaload, 1) := by decide +kernel
theorem dX4_carried_53 : decode cX4_carried 53 = .ok (.goto 4, 3) := by decide +kernel
theorem dX4_carried_56 : decode cX4_carried 56 = .ok (.iconst 0, 1) := by decide +kernel
theorem dX4_carried_57 : decode cX4_carried 57 = .ok (.iadd, 1) := by decide +kernel
theorem dX4_carried_58 : decode cX4_carried 58 = .ok (.istore_n 3, 1) := by decide +kernel
theorem dX4_carried_59 : decode cX4_carried 59 = .ok (.iinc 4 1, 3) := by decide +kernel
theorem dX4_carried_62 : decode cX4_carried 62 = .ok (.goto (-57), 3) := by decide +kernel
theorem dX4_carried_65 : decode cX4_carried 65 = .ok (.iload_n 3, 1) := by decide +kernel
theorem dX4_carried_66 : decode cX4_carried 66 = .ok (.ireturn, 1) := by decide +kernel
theorem dX4_missing_0 : decode cX4_missing 0 = .ok (.aload_n 0, 1) := by decide +kernel
theorem dX4_missing_1 : decode cX4_missing 1 = .ok (.getfield 85, 3) := by decide +kernel
theorem dX4_missing_4 : decode cX4_missing 4 = .ok (.iload_n 1, 1) := by decide +kernel
theorem dX4_missing_5 : decode cX4_missing 5 = .ok (.iaload, 1) := by decide +kernel
theorem dX4_missing_6 : decode cX4_missing 6 = .ok (.aload_n 0, 1) := by decide +kernel
theorem dX4_missing_7 : decode cX4_missing 7 = .ok (.getfield 82, 3) := by decide +kernel
theorem dX4_missing_10 : decode cX4_missing 10 = .ok (.iload_n 1, 1) := by decide +kernel
theorem dX4_missing_11 : decode cX4_missing 11 = .ok (.iaload, 1) := by decide +kernel
theorem dX4_missing_12 : decode cX4_missing 12 = .ok (.if_icmp .le 19, 3) := by decide +kernel
theorem dX4_missing_15 : decode cX4_missing 15 = .ok (.aload_n 0, 1) := by decide +kernel
theorem dX4_missing_16 : decode cX4_missing 16 = .ok (.getfield 85, 3) := by decide +kernel
theorem dX4_missing_19 : decode cX4_missing 19 = .ok (.iload_n 1, 1) := by decide +kernel
theorem dX4_missing_20 : decode cX4_missing 20 = .ok (.iaload, 1) := by decide +kernel
theorem dX4_missing_21 : decode cX4_missing 21 = .ok (.aload_n 0, 1) := by decide +kernel
theorem dX4_missing_22 : decode cX4_missing 22 = .ok (.getfield 82, 3) := by decide +kernel
theorem dX4_missing_25 : decode cX4_missing 25 = .ok (.iload_n 1, 1) := by decide +kernel
theorem dX4_missing_26 : decode cX4_missing 26 = .ok (.iaload, 1) := by decide +kernel
theorem dX4_missing_27 : decode cX4_missing 27 = .ok (.isub, 1) := by decide +kernel
theorem dX4_missing_28 : decode cX4_missing 28 = .ok (.goto 4, 3) := by decide +kernel
theorem dX4_missing_31 : decode cX4_missing 31 = .ok (.iconst 0, 1) := by decide +kernel
theorem dX4_missing_32 : decode cX4_missing 32 = .ok (.ireturn, 1) := by decide +kernel
theorem dX4_kilos_0 : decode cX4_kilos 0 = .ok (.aload_n 0, 1) := by decide +kernel
theorem dX4_kilos_1 : decode cX4_kilos 1 = .ok (.iload_n 1, 1) := by decide +kernel
theorem dX4_kilos_2 : decode cX4_kilos 2 = .ok (.invokestatic 126, 3) := by decide +kernel
theorem dX4_kilos_5 : decode cX4_kilos 5 = .ok (.ifCond .ne 7, 3) := by decide +kernel
theorem dX4_kilos_8 : decode cX4_kilos 8 = .ok (.iconst 1, 1) := by decide +kernel
theorem dX4_kilos_9 : decode cX4_kilos 9 = .ok (.goto 17, 3) := by decide +kernel
theorem dX4_kilos_12 : decode cX4_kilos 12 = .ok (.iload_n 2, 1) := by decide +kernel
theorem dX4_kilos_13 : decode cX4_kilos 13 = .ok (.iconst 0, 1) := by decide +kernel
theorem dX4_kilos_14 : decode cX4_kilos 14 = .ok (.iconst 4, 1) := by decide +kernel
theorem dX4_kilos_15 : decode cX4_kilos 15 = .ok (.invokestatic 94, 3) := by decide +kernel
theorem dX4_kilos_18 : decode cX4_kilos 18 = .ok (.ifCond .eq 7, 3) := by decide +kernel
theorem dX4_kilos_21 : decode cX4_kilos 21 = .ok (.iconst 0, 1) := by decide +kernel
theorem dX4_kilos_22 : decode cX4_kilos 22 = .ok (.goto 4, 3) := by decide +kernel
theorem dX4_kilos_25 : decode cX4_kilos 25 = .ok (.iconst 2, 1) := by decide +kernel
theorem dX4_kilos_26 : decode cX4_kilos 26 = .ok (.invokevirtual 101, 3) := by decide +kernel
theorem dX4_kilos_29 : decode cX4_kilos 29 = .ok (.ifCond .eq 5, 3) := by decide +kernel
theorem dX4_kilos_32 : decode cX4_kilos 32 = .ok (.iconst 0, 1) := by decide +kernel
theorem dX4_kilos_33 : decode cX4_kilos 33 = .ok (.ireturn, 1) := by decide +kernel
theorem dX4_kilos_34 : decode cX4_kilos 34 = .ok (.iload_n 2, 1) := by decide +kernel
theorem dX4_kilos_35 : decode cX4_kilos 35 = .ok (.ifCond .ne 12, 3) := by decide +kernel
theorem dX4_kilos_38 : decode cX4_kilos 38 = .ok (.aload_n 0, 1) := by decide +kernel
theorem dX4_kilos_39 : decode cX4_kilos 39 = .ok (.getfield 79, 3) := by decide +kernel
theorem dX4_kilos_42 : decode cX4_kilos 42 = .ok (.iload_n 1, 1) := by decide +kernel
theorem dX4_kilos_43 : decode cX4_kilos 43 = .ok (.iaload, 1) := by decide +kernel
theorem dX4_kilos_44 : decode cX4_kilos 44 = .ok (.goto 45, 3) := by decide +kernel
theorem dX4_kilos_47 : decode cX4_kilos 47 = .ok (.iload_n 2, 1) := by decide +kernel
theorem dX4_kilos_48 : decode cX4_kilos 48 = .ok (.iconst 1, 1) := by decide +kernel
theorem dX4_kilos_49 : decode cX4_kilos 49 = .ok (.if_icmp .ne 12, 3) := by decide +kernel
theorem dX4_kilos_52 : decode cX4_kilos 52 = .ok (.aload_n 0, 1) := by decide +kernel
theorem dX4_kilos_53 : decode cX4_kilos 53 = .ok (.getfield 82, 3) := by decide +kernel
theorem dX4_kilos_56 : decode cX4_kilos 56 = .ok (.iload_n 1, 1) := by decide +kernel
theorem dX4_kilos_57 : decode cX4_kilos 57 = .ok (.iaload, 1) := by decide +kernel
theorem dX4_kilos_58 : decode cX4_kilos 58 = .ok (.goto 31, 3) := by decide +kernel
theorem dX4_kilos_61 : decode cX4_kilos 61 = .ok (.iload_n 2, 1) := by decide +kernel
theorem dX4_kilos_62 : decode cX4_kilos 62 = .ok (.iconst 4, 1) := by decide +kernel
theorem dX4_kilos_63 : decode cX4_kilos 63 = .ok (.if_icmp .ne 11, 3) := by decide +kernel
theorem dX4_kilos_66 : decode cX4_kilos 66 = .ok (.aload_n 0, 1) := by decide +kernel
theorem dX4_kilos_67 : decode cX4_kilos 67 = .ok (.iload_n 1, 1) := by decide +kernel
theorem dX4_kilos_68 : decode cX4_kilos 68 = .ok (.invokevirtual 206, 3) := by decide +kernel
theorem dX4_kilos_71 : decode cX4_kilos 71 = .ok (.goto 18, 3) := by decide +kernel
theorem dX4_kilos_74 : decode cX4_kilos 74 = .ok (.aload_n 0, 1) := by decide +kernel
theorem dX4_kilos_75 : decode cX4_kilos 75 = .ok (.iload_n 1, 1) := by decide +kernel
theorem dX4_kilos_76 : decode cX4_kilos 76 = .ok (.iload_n 2, 1) := by decide +kernel
theorem dX4_kilos_77 : decode cX4_kilos 77 = .ok (.iconst 3, 1) := by decide +kernel
theorem dX4_kilos_78 : decode cX4_kilos 78 = .ok (.if_icmp .ne 7, 3) := by decide +kernel
theorem dX4_kilos_81 : decode cX4_kilos 81 = .ok (.iconst 1, 1) := by decide +kernel
theorem dX4_kilos_82 : decode cX4_kilos 82 = .ok (.goto 4, 3) := by decide +kernel
theorem dX4_kilos_85 : decode cX4_kilos 85 = .ok (.iconst 0, 1) := by decide +kernel
theorem dX4_kilos_86 : decode cX4_kilos 86 = .ok (.invokevirtual 209, 3) := by decide +kernel
theorem dX4_kilos_89 : decode cX4_kilos 89 = .ok (.ireturn, 1) := by decide +kernel
theorem dX4_kilosAnew_0 : decode cX4_kilosAnew 0 = .ok (.aload_n 0, 1) := by decide +kernel
theorem dX4_kilosAnew_1 : decode cX4_kilosAnew 1 = .ok (.iload_n 1, 1) := by decide +kernel
theorem dX4_kilosAnew_2 : decode cX4_kilosAnew 2 = .ok (.invokestatic 126, 3) := by decide +kernel
theorem dX4_kilosAnew_5 : decode cX4_kilosAnew 5 = .ok (.ifCond .eq 7, 3) := by decide +kernel
theorem dX4_kilosAnew_8 : decode cX4_kilosAnew 8 = .ok (.iconst 0, 1) := by decide +kernel
theorem dX4_kilosAnew_9 : decode cX4_kilosAnew 9 = .ok (.goto 4, 3) := by decide +kernel
theorem dX4_kilosAnew_12 : decode cX4_kilosAnew 12 = .ok (.iconst 1, 1) := by decide +kernel
theorem dX4_kilosAnew_13 : decode cX4_kilosAnew 13 = .ok (.invokevirtual 101, 3) := by decide +kernel
theorem dX4_kilosAnew_16 : decode cX4_kilosAnew 16 = .ok (.ifCond .eq 7, 3) := by decide +kernel
theorem dX4_kilosAnew_19 : decode cX4_kilosAnew 19 = .ok (.iconst 0, 1) := by decide +kernel
theorem dX4_kilosAnew_20 : decode cX4_kilosAnew 20 = .ok (.goto 9, 3) := by decide +kernel
theorem dX4_kilosAnew_23 : decode cX4_kilosAnew 23 = .ok (.aload_n 0, 1) := by decide +kernel
theorem dX4_kilosAnew_24 : decode cX4_kilosAnew 24 = .ok (.getfield 79, 3) := by decide +kernel
theorem dX4_kilosAnew_27 : decode cX4_kilosAnew 27 = .ok (.iload_n 1, 1) := by decide +kernel
theorem dX4_kilosAnew_28 : decode cX4_kilosAnew 28 = .ok (.iaload, 1) := by decide +kernel
theorem dX4_kilosAnew_29 : decode cX4_kilosAnew 29 = .ok (.ireturn, 1) := by decide +kernel
theorem dX4_bill_0 : decode cX4_bill 0 = .ok (.aload_n 0, 1) := by decide +kernel
theorem dX4_bill_1 : decode cX4_bill 1 = .ok (.iconst 0, 1) := by decide +kernel
theorem dX4_bill_2 : decode cX4_bill 2 = .ok (.putfield 88, 3) := by decide +kernel
theorem dX4_bill_5 : decode cX4_bill 5 = .ok (.lconst 0, 1) := by decide +kernel
theorem dX4_bill_6 : decode cX4_bill 6 = .ok (.lstore_n 1, 1) := by decide +kernel
theorem dX4_bill_7 : decode cX4_bill 7 = .ok (.iconst 0, 1) := by decide +kernel
theorem dX4_bill_8 : decode cX4_bill 8 = .ok (.istore_n 3, 1) := by decide +kernel
theorem dX4_bill_9 : decode cX4_bill 9 = .ok (.iload_n 3, 1) := by decide +kernel
theorem dX4_bill_10 : decode cX4_bill 10 = .ok (.iconst 3, 1) := by decide +kernel
theorem dX4_bill_11 : decode cX4_bill 11 = .ok (.if_icmp .ge 30, 3) := by decide +kernel
theorem dX4_bill_14 : decode cX4_bill 14 = .ok (.lload_n 1, 1) := by decide +kernel
theorem dX4_bill_15 : decode cX4_bill 15 = .ok (.aload_n 0, 1) := by decide +kernel
theorem dX4_bill_16 : decode cX4_bill 16 = .ok (.getfield 82, 3) := by decide +kernel
theorem dX4_bill_19 : decode cX4_bill 19 = .ok (.iload_n 3, 1) := by decide +kernel
theorem dX4_bill_20 : decode cX4_bill 20 = .ok (.iaload, 1) := by decide +kernel
theorem dX4_bill_21 : decode cX4_bill 21 = .ok (.i2l, 1) := by decide +kernel
theorem dX4_bill_22 : decode cX4_bill 22 = .ok (.ldc2_w 213, 3) := by decide +kernel
theorem dX4_bill_25 : decode cX4_bill 25 = .ok (.aload_n 0, 1) := by decide +kernel
theorem dX4_bill_26 : decode cX4_bill 26 = .ok (.iload_n 3, 1) := by decide +kernel
theorem dX4_bill_27 : decode cX4_bill 27 = .ok (.invokevirtual 206, 3) := by decide +kernel
theorem dX4_bill_30 : decode cX4_bill 30 = .ok (.i2l, 1) := by decide +kernel
theorem dX4_bill_31 : decode cX4_bill 31 = .ok (.lmul, 1) := by decide +kernel
theorem dX4_bill_32 : decode cX4_bill 32 = .ok (.ladd, 1) := by decide +kernel
theorem dX4_bill_33 : decode cX4_bill 33 = .ok (.ladd, 1) := by decide +kernel
theorem dX4_bill_34 : decode cX4_bill 34 = .ok (.lstore_n 1, 1) := by decide +kernel
theorem dX4_bill_35 : decode cX4_bill 35 = .ok (.iinc 3 1, 3) := by decide +kernel
theorem dX4_bill_38 : decode cX4_bill 38 = .ok (.goto (-29), 3) := by decide +kernel
theorem dX4_bill_41 : decode cX4_bill 41 = .ok (.lload_n 1, 1) := by decide +kernel
theorem dX4_bill_42 : decode cX4_bill 42 = .ok (.lreturn, 1) := by decide +kernel
end
section
theorem dL_piece_0 : decode cL_piece 0 = .ok (.aload 4, 2) := by decide +kernel
theorem dL_piece_2 : decode cL_piece 2 = .ok (.iconst 0, 1) := by decide +kernel
theorem dL_piece_3 : decode cL_piece 3 = .ok (.aload_n 0, 1) := by decide +kernel
theorem dL_piece_4 : decode cL_piece 4 = .ok (.iload_n 1, 1) := by decide +kernel
theorem dL_piece_5 : decode cL_piece 5 = .ok (.iload_n 2, 1) := by decide +kernel
theorem dL_piece_6 : decode cL_piece 6 = .ok (.iload_n 3, 1) := by decide +kernel
theorem dL_piece_7 : decode cL_piece 7 = .ok (.invokevirtual 7, 3) := by decide +kernel
theorem dL_piece_10 : decode cL_piece 10 = .ok (.i2l, 1) := by decide +kernel
theorem dL_piece_11 : decode cL_piece 11 = .ok (.lastore, 1) := by decide +kernel
theorem dL_piece_12 : decode cL_piece 12 = .ok (.goto 11, 3) := by decide +kernel
theorem dL_piece_15 : decode cL_piece 15 = .ok (.astore 5, 2) := by decide +kernel
theorem dL_piece_17 : decode cL_piece 17 = .ok (.iconst 1, 1) := by decide +kernel
theorem dL_piece_18 : decode cL_piece 18 = .ok (.ireturn, 1) := by decide +kernel
theorem dL_piece_19 : decode cL_piece 19 = .ok (.astore 5, 2) := by decide +kernel
theorem dL_piece_21 : decode cL_piece 21 = .ok (.iconst 2, 1) := by decide +kernel
theorem dL_piece_22 : decode cL_piece 22 = .ok (.ireturn, 1) := by decide +kernel
theorem dL_piece_23 : decode cL_piece 23 = .ok (.iconst 0, 1) := by decide +kernel
theorem dL_piece_24 : decode cL_piece 24 = .ok (.ireturn, 1) := by decide +kernel
theorem dL_weather_0 : decode cL_weather 0 = .ok (.aload_n 2, 1) := by decide +kernel
theorem dL_weather_1 : decode cL_weather 1 = .ok (.iconst 0, 1) := by decide +kernel
theorem dL_weather_2 : decode cL_weather 2 = .ok (.aload_n 0, 1) := by decide +kernel
theorem dL_weather_3 : decode cL_weather 3 = .ok (.iload_n 1, 1) := by decide +kernel
theorem dL_weather_4 : decode cL_weather 4 = .ok (.invokevirtual 17, 3) := by decide +kernel
theorem dL_weather_7 : decode cL_weather 7 = .ok (.i2l, 1) := by decide +kernel
theorem dL_weather_8 : decode cL_weather 8 = .ok (.lastore, 1) := by decide +kernel
theorem dL_weather_9 : decode cL_weather 9 = .ok (.goto 6, 3) := by decide +kernel
theorem dL_weather_12 : decode cL_weather 12 = .ok (.astore_n 3, 1) := by decide +kernel
theorem dL_weather_13 : decode cL_weather 13 = .ok (.iconst 1, 1) := by decide +kernel
theorem dL_weather_14 : decode cL_weather 14 = .ok (.ireturn, 1) := by decide +kernel
theorem dL_weather_15 : decode cL_weather 15 = .ok (.iconst 0, 1) := by decide +kernel
theorem dL_weather_16 : decode cL_weather 16 = .ok (.ireturn, 1) := by decide +kernel
theorem dL_snow_0 : decode cL_snow 0 = .ok (.aload_n 2, 1) := by decide +kernel
theorem dL_snow_1 : decode cL_snow 1 = .ok (.iconst 0, 1) := by decide +kernel
theorem dL_snow_2 : decode cL_snow 2 = .ok (.aload_n 0, 1) := by decide +kernel
theorem dL_snow_3 : decode cL_snow 3 = .ok (.iload_n 1, 1) := by decide +kernel
theorem dL_snow_4 : decode cL_snow 4 = .ok (.invokevirtual 21, 3) := by decide +kernel
theorem dL_snow_7 : decode cL_snow 7 = .ok (.i2l, 1) := by decide +kernel
theorem dL_snow_8 : decode cL_snow 8 = .ok (.lastore, 1) := by decide +kernel
theorem dL_snow_9 : decode cL_snow 9 = .ok (.goto 6, 3) := by decide +kernel
theorem dL_snow_12 : decode cL_snow 12 = .ok (.astore_n 3, 1) := by decide +kernel
theorem dL_snow_13 : decode cL_snow 13 = .ok (.iconst 1, 1) := by decide +kernel
theorem dL_snow_14 : decode cL_snow 14 = .ok (.ireturn, 1) := by decide +kernel
theorem dL_snow_15 : decode cL_snow 15 = .ok (.iconst 0, 1) := by decide +kernel
theorem dL_snow_16 : decode cL_snow 16 = .ok (.ireturn, 1) := by decide +kernel
theorem dL_plough_0 : decode cL_plough 0 = .ok (.aload_n 2, 1) := by decide +kernel
theorem dL_plough_1 : decode cL_plough 1 = .ok (.iconst 0, 1) := by decide +kernel
theorem dL_plough_2 : decode cL_plough 2 = .ok (.aload_n 0, 1) := by decide +kernel
theorem dL_plough_3 : decode cL_plough 3 = .ok (.iload_n 1, 1) := by decide +kernel
theorem dL_plough_4 : decode cL_plough 4 = .ok (.invokevirtual 24, 3) := by decide +kernel
theorem dL_plough_7 : decode cL_plough 7 = .ok (.i2l, 1) := by decide +kernel
theorem dL_plough_8 : decode cL_plough 8 = .ok (.lastore, 1) := by decide +kernel
theorem dL_plough_9 : decode cL_plough 9 = .ok (.goto 6, 3) := by decide +kernel
theorem dL_plough_12 : decode cL_plough 12 = .ok (.astore_n 3, 1) := by decide +kernel
theorem dL_plough_13 : decode cL_plough 13 = .ok (.iconst 1, 1) := by decide +kernel
theorem dL_plough_14 : decode cL_plough 14 = .ok (.ireturn, 1) := by decide +kernel
theorem dL_plough_15 : decode cL_plough 15 = .ok (.iconst 0, 1) := by decide +kernel
theorem dL_plough_16 : decode cL_plough 16 = .ok (.ireturn, 1) := by decide +kernel
theorem dL_flood_0 : decode cL_flood 0 = .ok (.aload_n 3, 1) := by decide +kernel
theorem dL_flood_1 : decode cL_flood 1 = .ok (.iconst 0, 1) := by decide +kernel
theorem dL_flood_2 : decode cL_flood 2 = .ok (.aload_n 0, 1) := by decide +kernel
theorem dL_flood_3 : decode cL_flood 3 = .ok (.iload_n 1, 1) := by decide +kernel
theorem dL_flood_4 : decode cL_flood 4 = .ok (.iload_n 2, 1) := by decide +kernel
theorem dL_flood_5 : decode cL_flood 5 = .ok (.invokevirtual 29, 3) := by decide +kernel
theorem dL_flood_8 : decode cL_flood 8 = .ok (.i2l, 1) := by decide +kernel
theorem dL_flood_9 : decode cL_flood 9 = .ok (.lastore, 1) := by decide +kernel
theorem dL_flood_10 : decode cL_flood 10 = .ok (.goto 15, 3) := by decide +kernel
theorem dL_flood_13 : decode cL_flood 13 = .ok (.astore 4, 2) := by decide +kernel
theorem dL_flood_15 : decode cL_flood 15 = .ok (.iconst 1, 1) := by decide +kernel
theorem dL_flood_16 : decode cL_flood 16 = .ok (.ireturn, 1) := by decide +kernel
theorem dL_flood_17 : decode cL_flood 17 = .ok (.astore 4, 2) := by decide +kernel
theorem dL_flood_19 : decode cL_flood 19 = .ok (.iconst 2, 1) := by decide +kernel
theorem dL_flood_20 : decode cL_flood 20 = .ok (.ireturn, 1) := by decide +kernel
theorem dL_flood_21 : decode cL_flood 21 = .ok (.astore 4, 2) := by decide +kernel
theorem dL_flood_23 : decode cL_flood 23 = .ok (.iconst 3, 1) := by decide +kernel
theorem dL_flood_24 : decode cL_flood 24 = .ok (.ireturn, 1) := by decide +kernel
theorem dL_flood_25 : decode cL_flood 25 = .ok (.iconst 0, 1) := by decide +kernel
theorem dL_flood_26 : decode cL_flood 26 = .ok (.ireturn, 1) := by decide +kernel
theorem dL_drill_0 : decode cL_drill 0 = .ok (.aload_n 2, 1) := by decide +kernel
theorem dL_drill_1 : decode cL_drill 1 = .ok (.iconst 0, 1) := by decide +kernel
theorem dL_drill_2 : decode cL_drill 2 = .ok (.aload_n 0, 1) := by decide +kernel
theorem dL_drill_3 : decode cL_drill 3 = .ok (.iload_n 1, 1) := by decide +kernel
theorem dL_drill_4 : decode cL_drill 4 = .ok (.invokevirtual 33, 3) := by decide +kernel
theorem dL_drill_7 : decode cL_drill 7 = .ok (.dastore, 1) := by decide +kernel
theorem dL_drill_8 : decode cL_drill 8 = .ok (.goto 6, 3) := by decide +kernel
theorem dL_drill_11 : decode cL_drill 11 = .ok (.astore_n 3, 1) := by decide +kernel
theorem dL_drill_12 : decode cL_drill 12 = .ok (.iconst 1, 1) := by decide +kernel
theorem dL_drill_13 : decode cL_drill 13 = .ok (.ireturn, 1) := by decide +kernel
theorem dL_drill_14 : decode cL_drill 14 = .ok (.iconst 0, 1) := by decide +kernel
theorem dL_drill_15 : decode cL_drill 15 = .ok (.ireturn, 1) := by decide +kernel
theorem dL_open_0 : decode cL_open 0 = .ok (.aload_n 3, 1) := by decide +kernel
theorem dL_open_1 : decode cL_open 1 = .ok (.iconst 0, 1) := by decide +kernel
theorem dL_open_2 : decode cL_open 2 = .ok (.aload_n 0, 1) := by decide +kernel
theorem dL_open_3 : decode cL_open 3 = .ok (.iload_n 1, 1) := by decide +kernel
theorem dL_open_4 : decode cL_open 4 = .ok (.iload_n 2, 1) := by decide +kernel
theorem dL_open_5 : decode cL_open 5 = .ok (.invokevirtual 37, 3) := by decide +kernel
theorem dL_open_8 : decode cL_open 8 = .ok (.i2l, 1) := by decide +kernel
theorem dL_open_9 : decode cL_open 9 = .ok (.lastore, 1) := by decide +kernel
theorem dL_open_10 : decode cL_open 10 = .ok (.goto 11, 3) := by decide +kernel
theorem dL_open_13 : decode cL_open 13 = .ok (.astore 4, 2) := by decide +kernel
theorem dL_open_15 : decode cL_open 15 = .ok (.iconst 1, 1) := by decide +kernel
theorem dL_open_16 : decode cL_open 16 = .ok (.ireturn, 1) := by decide +kernel
theorem dL_open_17 : decode cL_open 17 = .ok (.astore 4, 2) := by decide +kernel
theorem dL_open_19 : decode cL_open 19 = .ok (.iconst 2, 1) := by decide +kernel
theorem dL_open_20 : decode cL_open 20 = .ok (.ireturn, 1) := by decide +kernel
theorem dL_open_21 : decode cL_open 21 = .ok (.iconst 0, 1) := by decide +kernel
theorem dL_open_22 : decode cL_open 22 = .ok (.ireturn, 1) := by decide +kernel
theorem dL_limit_0 : decode cL_limit 0 = .ok (.aload_n 3, 1) := by decide +kernel
theorem dL_limit_1 : decode cL_limit 1 = .ok (.iconst 0, 1) := by decide +kernel
theorem dL_limit_2 : decode cL_limit 2 = .ok (.aload_n 0, 1) := by decide +kernel
theorem dL_limit_3 : decode cL_limit 3 = .ok (.iload_n 1, 1) := by decide +kernel
theorem dL_limit_4 : decode cL_limit 4 = .ok (.iload_n 2, 1) := by decide +kernel
theorem dL_limit_5 : decode cL_limit 5 = .ok (.invokevirtual 40, 3) := by decide +kernel
theorem dL_limit_8 : decode cL_limit 8 = .ok (.i2l, 1) := by decide +kernel
theorem dL_limit_9 : decode cL_limit 9 = .ok (.lastore, 1) := by decide +kernel
theorem dL_limit_10 : decode cL_limit 10 = .ok (.goto 11, 3) := by decide +kernel
theorem dL_limit_13 : decode cL_limit 13 = .ok (.astore 4, 2) := by decide +kernel
theorem dL_limit_15 : decode cL_limit 15 = .ok (.iconst 1, 1) := by decide +kernel
theorem dL_limit_16 : decode cL_limit 16 = .ok (.ireturn, 1) := by decide +kernel
theorem dL_limit_17 : decode cL_limit 17 = .ok (.astore 4, 2) := by decide +kernel
theorem dL_limit_19 : decode cL_limit 19 = .ok (.iconst 2, 1) := by decide +kernel
theorem dL_limit_20 : decode cL_limit 20 = .ok (.ireturn, 1) := by decide +kernel
theorem dL_limit_21 : decode cL_limit 21 = .ok (.iconst 0, 1) := by decide +kernel
theorem dL_limit_22 : decode cL_limit 22 = .ok (.ireturn, 1) := by decide +kernel
theorem dL_gap_0 : decode cL_gap 0 = .ok (.aload_n 2, 1) := by decide +kernel
theorem dL_gap_1 : decode cL_gap 1 = .ok (.iconst 0, 1) := by decide +kernel
theorem dL_gap_2 : decode cL_gap 2 = .ok (.aload_n 0, 1) := by decide +kernel
theorem dL_gap_3 : decode cL_gap 3 = .ok (.iload_n 1, 1) := by decide +kernel
theorem dL_gap_4 : decode cL_gap 4 = .ok (.invokevirtual 43, 3) := by decide +kernel
theorem dL_gap_7 : decode cL_gap 7 = .ok (.i2l, 1) := by decide +kernel
theorem dL_gap_8 : decode cL_gap 8 = .ok (.lastore, 1) := by decide +kernel
theorem dL_gap_9 : decode cL_gap 9 = .ok (.goto 6, 3) := by decide +kernel
theorem dL_gap_12 : decode cL_gap 12 = .ok (.astore_n 3, 1) := by decide +kernel
theorem dL_gap_13 : decode cL_gap 13 = .ok (.iconst 1, 1) := by decide +kernel
theorem dL_gap_14 : decode cL_gap 14 = .ok (.ireturn, 1) := by decide +kernel
theorem dL_gap_15 : decode cL_gap 15 = .ok (.iconst 0, 1) := by decide +kernel
theorem dL_gap_16 : decode cL_gap 16 = .ok (.ireturn, 1) := by decide +kernel
theorem dL_vehicle_0 : decode cL_vehicle 0 = .ok (.aload 4, 2) := by decide +kernel
theorem dL_vehicle_2 : decode cL_vehicle 2 = .ok (.iconst 0, 1) := by decide +kernel
theorem dL_vehicle_3 : decode cL_vehicle 3 = .ok (.aload_n 0, 1) := by decide +kernel
theorem dL_vehicle_4 : decode cL_vehicle 4 = .ok (.iload_n 1, 1) := by decide +kernel
theorem dL_vehicle_5 : decode cL_vehicle 5 = .ok (.iload_n 2, 1) := by decide +kernel
theorem dL_vehicle_6 : decode cL_vehicle 6 = .ok (.iload_n 3, 1) := by decide +kernel
theorem dL_vehicle_7 : decode cL_vehicle 7 = .ok (.invokevirtual 46, 3) := by decide +kernel
theorem dL_vehicle_10 : decode cL_vehicle 10 = .ok (.i2l, 1) := by decide +kernel
theorem dL_vehicle_11 : decode cL_vehicle 11 = .ok (.lastore, 1) := by decide +kernel
theorem dL_vehicle_12 : decode cL_vehicle 12 = .ok (.goto 11, 3) := by decide +kernel
theorem dL_vehicle_15 : decode cL_vehicle 15 = .ok (.astore 5, 2) := by decide +kernel
theorem dL_vehicle_17 : decode cL_vehicle 17 = .ok (.iconst 1, 1) := by decide +kernel
theorem dL_vehicle_18 : decode cL_vehicle 18 = .ok (.ireturn, 1) := by decide +kernel
theorem dL_vehicle_19 : decode cL_vehicle 19 = .ok (.astore 5, 2) := by decide +kernel
theorem dL_vehicle_21 : decode cL_vehicle 21 = .ok (.iconst 2, 1) := by decide +kernel
theorem dL_vehicle_22 : decode cL_vehicle 22 = .ok (.ireturn, 1) := by decide +kernel
theorem dL_vehicle_23 : decode cL_vehicle 23 = .ok (.iconst 0, 1) := by decide +kernel
theorem dL_vehicle_24 : decode cL_vehicle 24 = .ok (.ireturn, 1) := by decide +kernel
theorem dL_load_0 : decode cL_load 0 = .ok (.aload 4, 2) := by decide +kernel
theorem dL_load_2 : decode cL_load 2 = .ok (.iconst 0, 1) := by decide +kernel
theorem dL_load_3 : decode cL_load 3 = .ok (.aload_n 0, 1) := by decide +kernel
theorem dL_load_4 : decode cL_load 4 = .ok (.iload_n 1, 1) := by decide +kernel
theorem dL_load_5 : decode cL_load 5 = .ok (.iload_n 2, 1) := by decide +kernel
theorem dL_load_6 : decode cL_load 6 = .ok (.iload_n 3, 1) := by decide +kernel
theorem dL_load_7 : decode cL_load 7 = .ok (.invokevirtual 49, 3) := by decide +kernel
theorem dL_load_10 : decode cL_load 10 = .ok (.i2l, 1) := by decide +kernel
theorem dL_load_11 : decode cL_load 11 = .ok (.lastore, 1) := by decide +kernel
theorem dL_load_12 : decode cL_load 12 = .ok (.goto 15, 3) := by decide +kernel
theorem dL_load_15 : decode cL_load 15 = .ok (.astore 5, 2) := by decide +kernel
theorem dL_load_17 : decode cL_load 17 = .ok (.iconst 1, 1) := by decide +kernel
theorem dL_load_18 : decode cL_load 18 = .ok (.ireturn, 1) := by decide +kernel
theorem dL_load_19 : decode cL_load 19 = .ok (.astore 5, 2) := by decide +kernel
theorem dL_load_21 : decode cL_load 21 = .ok (.iconst 2, 1) := by decide +kernel
theorem dL_load_22 : decode cL_load 22 = .ok (.ireturn, 1) := by decide +kernel
theorem dL_load_23 : decode cL_load 23 = .ok (.astore 5, 2) := by decide +kernel
theorem dL_load_25 : decode cL_load 25 = .ok (.iconst 3, 1) := by decide +kernel
theorem dL_load_26 : decode cL_load 26 = .ok (.ireturn, 1) := by decide +kernel
theorem dL_load_27 : decode cL_load 27 = .ok (.iconst 0, 1) := by decide +kernel
theorem dL_load_28 : decode cL_load 28 = .ok (.ireturn, 1) := by decide +kernel
theorem dL_go_0 : decode cL_go 0 = .ok (.aload_n 2, 1) := by decide +kernel
theorem dL_go_1 : decode cL_go 1 = .ok (.iconst 0, 1) := by decide +kernel
theorem dL_go_2 : decode cL_go 2 = .ok (.aload_n 0, 1) := by decide +kernel
theorem dL_go_3 : decode cL_go 3 = .ok (.iload_n 1, 1) := by decide +kernel
theorem dL_go_4 : decode cL_go 4 = .ok (.invokevirtual 52, 3) := by decide +kernel
theorem dL_go_7 : decode cL_go 7 = .ok (.ifCond .eq 7, 3) := by decide +kernel
theorem dL_go_10 : decode cL_go 10 = .ok (.lconst 1, 1) := by decide +kernel
theorem dL_go_11 : decode cL_go 11 = .ok (.goto 4, 3) := by decide +kernel
theorem dL_go_14 : decode cL_go 14 = .ok (.lconst 0, 1) := by decide +kernel
theorem dL_go_15 : decode cL_go 15 = .ok (.lastore, 1) := by decide +kernel
theorem dL_go_16 : decode cL_go 16 = .ok (.goto 9, 3) := by decide +kernel
theorem dL_go_19 : decode cL_go 19 = .ok (.astore_n 3, 1) := by decide +kernel
theorem dL_go_20 : decode cL_go 20 = .ok (.iconst 1, 1) := by decide +kernel
theorem dL_go_21 : decode cL_go 21 = .ok (.ireturn, 1) := by decide +kernel
theorem dL_go_22 : decode cL_go 22 = .ok (.astore_n 3, 1) := by decide +kernel
theorem dL_go_23 : decode cL_go 23 = .ok (.iconst 2, 1) := by decide +kernel
theorem dL_go_24 : decode cL_go 24 = .ok (.ireturn, 1) := by decide +kernel
theorem dL_go_25 : decode cL_go 25 = .ok (.iconst 0, 1) := by decide +kernel
theorem dL_go_26 : decode cL_go 26 = .ok (.ireturn, 1) := by decide +kernel
theorem dL_turn_0 : decode cL_turn 0 = .ok (.aload_n 2, 1) := by decide +kernel
theorem dL_turn_1 : decode cL_turn 1 = .ok (.iconst 0, 1) := by decide +kernel
theorem dL_turn_2 : decode cL_turn 2 = .ok (.aload_n 0, 1) := by decide +kernel
theorem dL_turn_3 : decode cL_turn 3 = .ok (.iload_n 1, 1) := by decide +kernel
theorem dL_turn_4 : decode cL_turn 4 = .ok (.invokevirtual 56, 3) := by decide +kernel
theorem dL_turn_7 : decode cL_turn 7 = .ok (.ifCond .eq 7, 3) := by decide +kernel
theorem dL_turn_10 : decode cL_turn 10 = .ok (.lconst 1, 1) := by decide +kernel
theorem dL_turn_11 : decode cL_turn 11 = .ok (.goto 4, 3) := by decide +kernel
theorem dL_turn_14 : decode cL_turn 14 = .ok (.lconst 0, 1) := by decide +kernel
theorem dL_turn_15 : decode cL_turn 15 = .ok (.lastore, 1) := by decide +kernel
theorem dL_turn_16 : decode cL_turn 16 = .ok (.goto 9, 3) := by decide +kernel
theorem dL_turn_19 : decode cL_turn 19 = .ok (.astore_n 3, 1) := by decide +kernel
theorem dL_turn_20 : decode cL_turn 20 = .ok (.iconst 1, 1) := by decide +kernel
theorem dL_turn_21 : decode cL_turn 21 = .ok (.ireturn, 1) := by decide +kernel
theorem dL_turn_22 : decode cL_turn 22 = .ok (.astore_n 3, 1) := by decide +kernel
theorem dL_turn_23 : decode cL_turn 23 = .ok (.iconst 2, 1) := by decide +kernel
theorem dL_turn_24 : decode cL_turn 24 = .ok (.ireturn, 1) := by decide +kernel
theorem dL_turn_25 : decode cL_turn 25 = .ok (.iconst 0, 1) := by decide +kernel
theorem dL_turn_26 : decode cL_turn 26 = .ok (.ireturn, 1) := by decide +kernel
theorem dL_order_0 : decode cL_order 0 = .ok (.aload_n 3, 1) := by decide +kernel
theorem dL_order_1 : decode cL_order 1 = .ok (.iconst 0, 1) := by decide +kernel
theorem dL_order_2 : decode cL_order 2 = .ok (.aload_n 0, 1) := by decide +kernel
theorem dL_order_3 : decode cL_order 3 = .ok (.iload_n 1, 1) := by decide +kernel
theorem dL_order_4 : decode cL_order 4 = .ok (.iload_n 2, 1) := by decide +kernel
theorem dL_order_5 : decode cL_order 5 = .ok (.invokevirtual 59, 3) := by decide +kernel
theorem dL_order_8 : decode cL_order 8 = .ok (.i2l, 1) := by decide +kernel
theorem dL_order_9 : decode cL_order 9 = .ok (.lastore, 1) := by decide +kernel
theorem dL_order_10 : decode cL_order 10 = .ok (.goto 15, 3) := by decide +kernel
theorem dL_order_13 : decode cL_order 13 = .ok (.astore 4, 2) := by decide +kernel
theorem dL_order_15 : decode cL_order 15 = .ok (.iconst 1, 1) := by decide +kernel
theorem dL_order_16 : decode cL_order 16 = .ok (.ireturn, 1) := by decide +kernel
theorem dL_order_17 : decode cL_order 17 = .ok (.astore 4, 2) := by decide +kernel
theorem dL_order_19 : decode cL_order 19 = .ok (.iconst 2, 1) := by decide +kernel
theorem dL_order_20 : decode cL_order 20 = .ok (.ireturn, 1) := by decide +kernel
theorem dL_order_21 : decode cL_order 21 = .ok (.astore 4, 2) := by decide +kernel
theorem dL_order_23 : decode cL_order 23 = .ok (.iconst 3, 1) := by decide +kernel
theorem dL_order_24 : decode cL_order 24 = .ok (.ireturn, 1) := by decide +kernel
theorem dL_order_25 : decode cL_order 25 = .ok (.iconst 0, 1) := by decide +kernel
theorem dL_order_26 : decode cL_order 26 = .ok (.ireturn, 1) := by decide +kernel
theorem dL_pass_0 : decode cL_pass 0 = .ok (.aload_n 2, 1) := by decide +kernel
theorem dL_pass_1 : decode cL_pass 1 = .ok (.iconst 0, 1) := by decide +kernel
theorem dL_pass_2 : decode cL_pass 2 = .ok (.aload_n 0, 1) := by decide +kernel
theorem dL_pass_3 : decode cL_pass 3 = .ok (.iload_n 1, 1) := by decide +kernel
theorem dL_pass_4 : decode cL_pass 4 = .ok (.invokevirtual 62, 3) := by decide +kernel
theorem dL_pass_7 : decode cL_pass 7 = .ok (.i2l, 1) := by decide +kernel
theorem dL_pass_8 : decode cL_pass 8 = .ok (.lastore, 1) := by decide +kernel
theorem dL_pass_9 : decode cL_pass 9 = .ok (.goto 9, 3) := by decide +kernel
theorem dL_pass_12 : decode cL_pass 12 = .ok (.astore_n 3, 1) := by decide +kernel
theorem dL_pass_13 : decode cL_pass 13 = .ok (.iconst 1, 1) := by decide +kernel
theorem dL_pass_14 : decode cL_pass 14 = .ok (.ireturn, 1) := by decide +kernel
theorem dL_pass_15 : decode cL_pass 15 = .ok (.astore_n 3, 1) := by decide +kernel
theorem dL_pass_16 : decode cL_pass 16 = .ok (.iconst 2, 1) := by decide +kernel
theorem dL_pass_17 : decode cL_pass 17 = .ok (.ireturn, 1) := by decide +kernel
theorem dL_pass_18 : decode cL_pass 18 = .ok (.iconst 0, 1) := by decide +kernel
theorem dL_pass_19 : decode cL_pass 19 = .ok (.ireturn, 1) := by decide +kernel
theorem dL_told_0 : decode cL_told 0 = .ok (.aload_n 3, 1) := by decide +kernel
theorem dL_told_1 : decode cL_told 1 = .ok (.iconst 0, 1) := by decide +kernel
theorem dL_told_2 : decode cL_told 2 = .ok (.aload_n 0, 1) := by decide +kernel
theorem dL_told_3 : decode cL_told 3 = .ok (.iload_n 1, 1) := by decide +kernel
theorem dL_told_4 : decode cL_told 4 = .ok (.iload_n 2, 1) := by decide +kernel
theorem dL_told_5 : decode cL_told 5 = .ok (.invokevirtual 65, 3) := by decide +kernel
theorem dL_told_8 : decode cL_told 8 = .ok (.i2l, 1) := by decide +kernel
theorem dL_told_9 : decode cL_told 9 = .ok (.lastore, 1) := by decide +kernel
theorem dL_told_10 : decode cL_told 10 = .ok (.goto 11, 3) := by decide +kernel
theorem dL_told_13 : decode cL_told 13 = .ok (.astore 4, 2) := by decide +kernel
theorem dL_told_15 : decode cL_told 15 = .ok (.iconst 1, 1) := by decide +kernel
theorem dL_told_16 : decode cL_told 16 = .ok (.ireturn, 1) := by decide +kernel
theorem dL_told_17 : decode cL_told 17 = .ok (.astore 4, 2) := by decide +kernel
theorem dL_told_19 : decode cL_told 19 = .ok (.iconst 2, 1) := by decide +kernel
theorem dL_told_20 : decode cL_told 20 = .ok (.ireturn, 1) := by decide +kernel
theorem dL_told_21 : decode cL_told 21 = .ok (.iconst 0, 1) := by decide +kernel
theorem dL_told_22 : decode cL_told 22 = .ok (.ireturn, 1) := by decide +kernel
theorem dL_thickness_0 : decode cL_thickness 0 = .ok (.aload_n 3, 1) := by decide +kernel
theorem dL_thickness_1 : decode cL_thickness 1 = .ok (.iconst 0, 1) := by decide +kernel
theorem dL_thickness_2 : decode cL_thickness 2 = .ok (.aload_n 0, 1) := by decide +kernel
theorem dL_thickness_3 : decode cL_thickness 3 = .ok (.iload_n 1, 1) := by decide +kernel
theorem dL_thickness_4 : decode cL_thickness 4 = .ok (.iload_n 2, 1) := by decide +kernel
theorem dL_thickness_5 : decode cL_thickness 5 = .ok (.invokevirtual 68, 3) := by decide +kernel
theorem dL_thickness_8 : decode cL_thickness 8 = .ok (.dastore, 1) := by decide +kernel
theorem dL_thickness_9 : decode cL_thickness 9 = .ok (.goto 7, 3) := by decide +kernel
theorem dL_thickness_12 : decode cL_thickness 12 = .ok (.astore 4, 2) := by decide +kernel
theorem dL_thickness_14 : decode cL_thickness 14 = .ok (.iconst 1, 1) := by decide +kernel
theorem dL_thickness_15 : decode cL_thickness 15 = .ok (.ireturn, 1) := by decide +kernel
theorem dL_thickness_16 : decode cL_thickness 16 = .ok (.iconst 0, 1) := by decide +kernel
theorem dL_thickness_17 : decode cL_thickness 17 = .ok (.ireturn, 1) := by decide +kernel
theorem dL_bears_0 : decode cL_bears 0 = .ok (.aload_n 3, 1) := by decide +kernel
theorem dL_bears_1 : decode cL_bears 1 = .ok (.iconst 0, 1) := by decide +kernel
theorem dL_bears_2 : decode cL_bears 2 = .ok (.aload_n 0, 1) := by decide +kernel
theorem dL_bears_3 : decode cL_bears 3 = .ok (.iload_n 1, 1) := by decide +kernel
theorem dL_bears_4 : decode cL_bears 4 = .ok (.iload_n 2, 1) := by decide +kernel
theorem dL_bears_5 : decode cL_bears 5 = .ok (.invokevirtual 72, 3) := by decide +kernel
theorem dL_bears_8 : decode cL_bears 8 = .ok (.i2l, 1) := by decide +kernel
theorem dL_bears_9 : decode cL_bears 9 = .ok (.lastore, 1) := by decide +kernel
theorem dL_bears_10 : decode cL_bears 10 = .ok (.goto 7, 3) := by decide +kernel
theorem dL_bears_13 : decode cL_bears 13 = .ok (.astore 4, 2) := by decide +kernel
theorem dL_bears_15 : decode cL_bears 15 = .ok (.iconst 1, 1) := by decide +kernel
theorem dL_bears_16 : decode cL_bears 16 = .ok (.ireturn, 1) := by decide +kernel
theorem dL_bears_17 : decode cL_bears 17 = .ok (.iconst 0, 1) := by decide +kernel
theorem dL_bears_18 : decode cL_bears 18 = .ok (.ireturn, 1) := by decide +kernel
theorem dL_ofVehicle_0 : decode cL_ofVehicle 0 = .ok (.aload_n 3, 1) := by decide +kernel
theorem dL_ofVehicle_1 : decode cL_ofVehicle 1 = .ok (.iconst 0, 1) := by decide +kernel
theorem dL_ofVehicle_2 : decode cL_ofVehicle 2 = .ok (.aload_n 0, 1) := by decide +kernel
theorem dL_ofVehicle_3 : decode cL_ofVehicle 3 = .ok (.iload_n 1, 1) := by decide +kernel
theorem dL_ofVehicle_4 : decode cL_ofVehicle 4 = .ok (.iload_n 2, 1) := by decide +kernel
theorem dL_ofVehicle_5 : decode cL_ofVehicle 5 = .ok (.invokevirtual 76, 3) := by decide +kernel
theorem dL_ofVehicle_8 : decode cL_ofVehicle 8 = .ok (.i2l, 1) := by decide +kernel
theorem dL_ofVehicle_9 : decode cL_ofVehicle 9 = .ok (.lastore, 1) := by decide +kernel
theorem dL_ofVehicle_10 : decode cL_ofVehicle 10 = .ok (.goto 11, 3) := by decide +kernel
theorem dL_ofVehicle_13 : decode cL_ofVehicle 13 = .ok (.astore 4, 2) := by decide +kernel
theorem dL_ofVehicle_15 : decode cL_ofVehicle 15 = .ok (.iconst 1, 1) := by decide +kernel
theorem dL_ofVehicle_16 : decode cL_ofVehicle 16 = .ok (.ireturn, 1) := by decide +kernel
theorem dL_ofVehicle_17 : decode cL_ofVehicle 17 = .ok (.astore 4, 2) := by decide +kernel
theorem dL_ofVehicle_19 : decode cL_ofVehicle 19 = .ok (.iconst 2, 1) := by decide +kernel
theorem dL_ofVehicle_20 : decode cL_ofVehicle 20 = .ok (.ireturn, 1) := by decide +kernel
theorem dL_ofVehicle_21 : decode cL_ofVehicle 21 = .ok (.iconst 0, 1) := by decide +kernel
theorem dL_ofVehicle_22 : decode cL_ofVehicle 22 = .ok (.ireturn, 1) := by decide +kernel
theorem dL_why_0 : decode cL_why 0 = .ok (.aload_n 2, 1) := by decide +kernel
theorem dL_why_1 : decode cL_why 1 = .ok (.iconst 0, 1) := by decide +kernel
theorem dL_why_2 : decode cL_why 2 = .ok (.aload_n 0, 1) := by decide +kernel
theorem dL_why_3 : decode cL_why 3 = .ok (.iload_n 1, 1) := by decide +kernel
theorem dL_why_4 : decode cL_why 4 = .ok (.invokevirtual 79, 3) := by decide +kernel
theorem dL_why_7 : decode cL_why 7 = .ok (.i2l, 1) := by decide +kernel
theorem dL_why_8 : decode cL_why 8 = .ok (.lastore, 1) := by decide +kernel
theorem dL_why_9 : decode cL_why 9 = .ok (.goto 6, 3) := by decide +kernel
theorem dL_why_12 : decode cL_why 12 = .ok (.astore_n 3, 1) := by decide +kernel
theorem dL_why_13 : decode cL_why 13 = .ok (.iconst 1, 1) := by decide +kernel
theorem dL_why_14 : decode cL_why 14 = .ok (.ireturn, 1) := by decide +kernel
theorem dL_why_15 : decode cL_why 15 = .ok (.iconst 0, 1) := by decide +kernel
theorem dL_why_16 : decode cL_why 16 = .ok (.ireturn, 1) := by decide +kernel
theorem dL_speed_0 : decode cL_speed 0 = .ok (.aload_n 3, 1) := by decide +kernel
theorem dL_speed_1 : decode cL_speed 1 = .ok (.iconst 0, 1) := by decide +kernel
theorem dL_speed_2 : decode cL_speed 2 = .ok (.aload_n 0, 1) := by decide +kernel
theorem dL_speed_3 : decode cL_speed 3 = .ok (.iload_n 1, 1) := by decide +kernel
theorem dL_speed_4 : decode cL_speed 4 = .ok (.iload_n 2, 1) := by decide +kernel
theorem dL_speed_5 : decode cL_speed 5 = .ok (.invokevirtual 82, 3) := by decide +kernel
theorem dL_speed_8 : decode cL_speed 8 = .ok (.i2l, 1) := by decide +kernel
theorem dL_speed_9 : decode cL_speed 9 = .ok (.lastore, 1) := by decide +kernel
theorem dL_speed_10 : decode cL_speed 10 = .ok (.goto 7, 3) := by decide +kernel
theorem dL_speed_13 : decode cL_speed 13 = .ok (.astore 4, 2) := by decide +kernel
theorem dL_speed_15 : decode cL_speed 15 = .ok (.iconst 1, 1) := by decide +kernel
theorem dL_speed_16 : decode cL_speed 16 = .ok (.ireturn, 1) := by decide +kernel
theorem dL_speed_17 : decode cL_speed 17 = .ok (.iconst 0, 1) := by decide +kernel
theorem dL_speed_18 : decode cL_speed 18 = .ok (.ireturn, 1) := by decide +kernel
theorem dL_minutes_0 : decode cL_minutes 0 = .ok (.aload_n 3, 1) := by decide +kernel
theorem dL_minutes_1 : decode cL_minutes 1 = .ok (.iconst 0, 1) := by decide +kernel
theorem dL_minutes_2 : decode cL_minutes 2 = .ok (.aload_n 0, 1) := by decide +kernel
theorem dL_minutes_3 : decode cL_minutes 3 = .ok (.iload_n 1, 1) := by decide +kernel
theorem dL_minutes_4 : decode cL_minutes 4 = .ok (.iload_n 2, 1) := by decide +kernel
theorem dL_minutes_5 : decode cL_minutes 5 = .ok (.invokevirtual 85, 3) := by decide +kernel
theorem dL_minutes_8 : decode cL_minutes 8 = .ok (.i2l, 1) := by decide +kernel
theorem dL_minutes_9 : decode cL_minutes 9 = .ok (.lastore, 1) := by decide +kernel
theorem dL_minutes_10 : decode cL_minutes 10 = .ok (.goto 7, 3) := by decide +kernel
theorem dL_minutes_13 : decode cL_minutes 13 = .ok (.astore 4, 2) := by decide +kernel
theorem dL_minutes_15 : decode cL_minutes 15 = .ok (.iconst 1, 1) := by decide +kernel
theorem dL_minutes_16 : decode cL_minutes 16 = .ok (.ireturn, 1) := by decide +kernel
theorem dL_minutes_17 : decode cL_minutes 17 = .ok (.iconst 0, 1) := by decide +kernel
theorem dL_minutes_18 : decode cL_minutes 18 = .ok (.ireturn, 1) := by decide +kernel
theorem dL_minutesAnew_0 : decode cL_minutesAnew 0 = .ok (.aload_n 3, 1) := by decide +kernel
theorem dL_minutesAnew_1 : decode cL_minutesAnew 1 = .ok (.iconst 0, 1) := by decide +kernel
theorem dL_minutesAnew_2 : decode cL_minutesAnew 2 = .ok (.aload_n 0, 1) := by decide +kernel
theorem dL_minutesAnew_3 : decode cL_minutesAnew 3 = .ok (.iload_n 1, 1) := by decide +kernel
theorem dL_minutesAnew_4 : decode cL_minutesAnew 4 = .ok (.iload_n 2, 1) := by decide +kernel
theorem dL_minutesAnew_5 : decode cL_minutesAnew 5 = .ok (.invokevirtual 88, 3) := by decide +kernel
theorem dL_minutesAnew_8 : decode cL_minutesAnew 8 = .ok (.i2l, 1) := by decide +kernel
theorem dL_minutesAnew_9 : decode cL_minutesAnew 9 = .ok (.lastore, 1) := by decide +kernel
theorem dL_minutesAnew_10 : decode cL_minutesAnew 10 = .ok (.goto 7, 3) := by decide +kernel
theorem dL_minutesAnew_13 : decode cL_minutesAnew 13 = .ok (.astore 4, 2) := by decide +kernel
theorem dL_minutesAnew_15 : decode cL_minutesAnew 15 = .ok (.iconst 1, 1) := by decide +kernel
theorem dL_minutesAnew_16 : decode cL_minutesAnew 16 = .ok (.ireturn, 1) := by decide +kernel
theorem dL_minutesAnew_17 : decode cL_minutesAnew 17 = .ok (.iconst 0, 1) := by decide +kernel
theorem dL_minutesAnew_18 : decode cL_minutesAnew 18 = .ok (.ireturn, 1) := by decide +kernel
theorem dL_kilos_0 : decode cL_kilos 0 = .ok (.aload_n 3, 1) := by decide +kernel
theorem dL_kilos_1 : decode cL_kilos 1 = .ok (.iconst 0, 1) := by decide +kernel
theorem dL_kilos_2 : decode cL_kilos 2 = .ok (.aload_n 0, 1) := by decide +kernel
theorem dL_kilos_3 : decode cL_kilos 3 = .ok (.iload_n 1, 1) := by decide +kernel
theorem dL_kilos_4 : decode cL_kilos 4 = .ok (.iload_n 2, 1) := by decide +kernel
theorem dL_kilos_5 : decode cL_kilos 5 = .ok (.invokevirtual 91, 3) := by decide +kernel
theorem dL_kilos_8 : decode cL_kilos 8 = .ok (.i2l, 1) := by decide +kernel
theorem dL_kilos_9 : decode cL_kilos 9 = .ok (.lastore, 1) := by decide +kernel
theorem dL_kilos_10 : decode cL_kilos 10 = .ok (.goto 11, 3) := by decide +kernel
theorem dL_kilos_13 : decode cL_kilos 13 = .ok (.astore 4, 2) := by decide +kernel
theorem dL_kilos_15 : decode cL_kilos 15 = .ok (.iconst 1, 1) := by decide +kernel
theorem dL_kilos_16 : decode cL_kilos 16 = .ok (.ireturn, 1) := by decide +kernel
theorem dL_kilos_17 : decode cL_kilos 17 = .ok (.astore 4, 2) := by decide +kernel
theorem dL_kilos_19 : decode cL_kilos 19 = .ok (.iconst 2, 1) := by decide +kernel
theorem dL_kilos_20 : decode cL_kilos 20 = .ok (.ireturn, 1) := by decide +kernel
theorem dL_kilos_21 : decode cL_kilos 21 = .ok (.iconst 0, 1) := by decide +kernel
theorem dL_kilos_22 : decode cL_kilos 22 = .ok (.ireturn, 1) := by decide +kernel
theorem dL_kilosAnew_0 : decode cL_kilosAnew 0 = .ok (.aload_n 2, 1) := by decide +kernel
theorem dL_kilosAnew_1 : decode cL_kilosAnew 1 = .ok (.iconst 0, 1) := by decide +kernel
theorem dL_kilosAnew_2 : decode cL_kilosAnew 2 = .ok (.aload_n 0, 1) := by decide +kernel
theorem dL_kilosAnew_3 : decode cL_kilosAnew 3 = .ok (.iload_n 1, 1) := by decide +kernel
theorem dL_kilosAnew_4 : decode cL_kilosAnew 4 = .ok (.invokevirtual 94, 3) := by decide +kernel
theorem dL_kilosAnew_7 : decode cL_kilosAnew 7 = .ok (.i2l, 1) := by decide +kernel
theorem dL_kilosAnew_8 : decode cL_kilosAnew 8 = .ok (.lastore, 1) := by decide +kernel
theorem dL_kilosAnew_9 : decode cL_kilosAnew 9 = .ok (.goto 6, 3) := by decide +kernel
theorem dL_kilosAnew_12 : decode cL_kilosAnew 12 = .ok (.astore_n 3, 1) := by decide +kernel
theorem dL_kilosAnew_13 : decode cL_kilosAnew 13 = .ok (.iconst 1, 1) := by decide +kernel
theorem dL_kilosAnew_14 : decode cL_kilosAnew 14 = .ok (.ireturn, 1) := by decide +kernel
theorem dL_kilosAnew_15 : decode cL_kilosAnew 15 = .ok (.iconst 0, 1) := by decide +kernel
theorem dL_kilosAnew_16 : decode cL_kilosAnew 16 = .ok (.ireturn, 1) := by decide +kernel
theorem dL_law_0 : decode cL_law 0 = .ok (.new 8, 3) := by decide +kernel
theorem dL_law_3 : decode cL_law 3 = .ok (.dup, 1) := by decide +kernel
theorem dL_law_4 : decode cL_law 4 = .ok (.invokespecial 97, 3) := by decide +kernel
theorem dL_law_7 : decode cL_law 7 = .ok (.astore_n 1, 1) := by decide +kernel
theorem dL_law_8 : decode cL_law 8 = .ok (.new 98, 3) := by decide +kernel
theorem dL_law_11 : decode cL_law 11 = .ok (.dup, 1) := by decide +kernel
theorem dL_law_12 : decode cL_law 12 = .ok (.invokespecial 100, 3) := by decide +kernel
theorem dL_law_15 : decode cL_law 15 = .ok (.astore_n 2, 1) := by decide +kernel
theorem dL_law_16 : decode cL_law 16 = .ok (.iconst 1, 1) := by decide +kernel
theorem dL_law_17 : decode cL_law 17 = .ok (.newarray .long, 2) := by decide +kernel
theorem dL_law_19 : decode cL_law 19 = .ok (.astore_n 3, 1) := by decide +kernel
theorem dL_law_20 : decode cL_law 20 = .ok (.iconst 1, 1) := by decide +kernel
theorem dL_law_21 : decode cL_law 21 = .ok (.newarray .double, 2) := by decide +kernel
theorem dL_law_23 : decode cL_law 23 = .ok (.astore 4, 2) := by decide +kernel
theorem dL_law_25 : decode cL_law 25 = .ok (.iconst 0, 1) := by decide +kernel
theorem dL_law_26 : decode cL_law 26 = .ok (.istore 5, 2) := by decide +kernel
theorem dL_law_28 : decode cL_law 28 = .ok (.iload 5, 2) := by decide +kernel
theorem dL_law_30 : decode cL_law 30 = .ok (.aload_n 0, 1) := by decide +kernel
theorem dL_law_31 : decode cL_law 31 = .ok (.arraylength, 1) := by decide +kernel
theorem dL_law_32 : decode cL_law 32 = .ok (.iconst 4, 1) := by decide +kernel
theorem dL_law_33 : decode cL_law 33 = .ok (.isub, 1) := by decide +kernel
theorem dL_law_34 : decode cL_law 34 = .ok (.if_icmp .gt 1871, 3) := by decide +kernel
theorem dL_law_37 : decode cL_law 37 = .ok (.aload_n 0, 1) := by decide +kernel
theorem dL_law_38 : decode cL_law 38 = .ok (.iload 5, 2) := by decide +kernel
theorem dL_law_40 : decode cL_law 40 = .ok (.iaload, 1) := by decide +kernel
theorem dL_law_41 : decode cL_law 41 = .ok (.bipush 31, 2) := by decide +kernel
theorem dL_law_43 : decode cL_law 43 = .ok (.iand, 1) := by decide +kernel
theorem dL_law_44 : decode cL_law 44 = .ok (.tableswitch 1855 0 26 #[124, 204, 260, 316, 372, 440, 517, 585, 653, 709, 789, 869, 932, 995, 1063, 1119, 1132, 1200, 1305, 1389, 1457, 1513, 1581, 1649, 1717, 1785, 1841], 124) := by decide +kernel
theorem dL_law_168 : decode cL_law 168 = .ok (.aload_n 1, 1) := by decide +kernel
theorem dL_law_169 : decode cL_law 169 = .ok (.aload_n 0, 1) := by decide +kernel
theorem dL_law_170 : decode cL_law 170 = .ok (.iload 5, 2) := by decide +kernel
theorem dL_law_172 : decode cL_law 172 = .ok (.iconst 1, 1) := by decide +kernel
theorem dL_law_173 : decode cL_law 173 = .ok (.iadd, 1) := by decide +kernel
theorem dL_law_174 : decode cL_law 174 = .ok (.iaload, 1) := by decide +kernel
theorem dL_law_175 : decode cL_law 175 = .ok (.aload_n 0, 1) := by decide +kernel
theorem dL_law_176 : decode cL_law 176 = .ok (.iload 5, 2) := by decide +kernel
theorem dL_law_178 : decode cL_law 178 = .ok (.iconst 2, 1) := by decide +kernel
theorem dL_law_179 : decode cL_law 179 = .ok (.iadd, 1) := by decide +kernel
theorem dL_law_180 : decode cL_law 180 = .ok (.iaload, 1) := by decide +kernel
theorem dL_law_181 : decode cL_law 181 = .ok (.aload_n 0, 1) := by decide +kernel
theorem dL_law_182 : decode cL_law 182 = .ok (.iload 5, 2) := by decide +kernel
theorem dL_law_184 : decode cL_law 184 = .ok (.iconst 3, 1) := by decide +kernel
theorem dL_law_185 : decode cL_law 185 = .ok (.iadd, 1) := by decide +kernel
theorem dL_law_186 : decode cL_law 186 = .ok (.iaload, 1) := by decide +kernel
theorem dL_law_187 : decode cL_law 187 = .ok (.aload_n 3, 1) := by decide +kernel
theorem dL_law_188 : decode cL_law 188 = .ok (.invokestatic 101, 3) := by decide +kernel
theorem dL_law_191 : decode cL_law 191 = .ok (.istore 6, 2) := by decide +kernel
theorem dL_law_193 : decode cL_law 193 = .ok (.aload_n 2, 1) := by decide +kernel
theorem dL_law_194 : decode cL_law 194 = .ok (.aload_n 0, 1) := by decide +kernel
theorem dL_law_195 : decode cL_law 195 = .ok (.iload 5, 2) := by decide +kernel
theorem dL_law_197 : decode cL_law 197 = .ok (.iconst 1, 1) := by decide +kernel
theorem dL_law_198 : decode cL_law 198 = .ok (.iadd, 1) := by decide +kernel
theorem dL_law_199 : decode cL_law 199 = .ok (.iaload, 1) := by decide +kernel
theorem dL_law_200 : decode cL_law 200 = .ok (.aload_n 0, 1) := by decide +kernel
theorem dL_law_201 : decode cL_law 201 = .ok (.iload 5, 2) := by decide +kernel
theorem dL_law_203 : decode cL_law 203 = .ok (.iconst 2, 1) := by decide +kernel
theorem dL_law_204 : decode cL_law 204 = .ok (.iadd, 1) := by decide +kernel
theorem dL_law_205 : decode cL_law 205 = .ok (.iaload, 1) := by decide +kernel
theorem dL_law_206 : decode cL_law 206 = .ok (.aload_n 0, 1) := by decide +kernel
theorem dL_law_207 : decode cL_law 207 = .ok (.iload 5, 2) := by decide +kernel
theorem dL_law_209 : decode cL_law 209 = .ok (.iconst 3, 1) := by decide +kernel
theorem dL_law_210 : decode cL_law 210 = .ok (.iadd, 1) := by decide +kernel
theorem dL_law_211 : decode cL_law 211 = .ok (.iaload, 1) := by decide +kernel
theorem dL_law_212 : decode cL_law 212 = .ok (.invokevirtual 106, 3) := by decide +kernel
theorem dL_law_215 : decode cL_law 215 = .ok (.istore 7, 2) := by decide +kernel
theorem dL_law_217 : decode cL_law 217 = .ok (.aload_n 2, 1) := by decide +kernel
theorem dL_law_218 : decode cL_law 218 = .ok (.invokevirtual 107, 3) := by decide +kernel
theorem dL_law_221 : decode cL_law 221 = .ok (.iload 6, 2) := by decide +kernel
theorem dL_law_223 : decode cL_law 223 = .ok (.if_icmp .eq 5, 3) := by decide +kernel
theorem dL_law_226 : decode cL_law 226 = .ok (.iconst 0, 1) := by decide +kernel
theorem dL_law_227 : decode cL_law 227 = .ok (.ireturn, 1) := by decide +kernel
theorem dL_law_228 : decode cL_law 228 = .ok (.iload 6, 2) := by decide +kernel
theorem dL_law_230 : decode cL_law 230 = .ok (.ifCond .ne 15, 3) := by decide +kernel
theorem dL_law_233 : decode cL_law 233 = .ok (.aload_n 3, 1) := by decide +kernel
theorem dL_law_234 : decode cL_law 234 = .ok (.iconst 0, 1) := by decide +kernel
theorem dL_law_235 : decode cL_law 235 = .ok (.laload, 1) := by decide +kernel
theorem dL_law_236 : decode cL_law 236 = .ok (.iload 7, 2) := by decide +kernel
theorem dL_law_238 : decode cL_law 238 = .ok (.i2l, 1) := by decide +kernel
theorem dL_law_239 : decode cL_law 239 = .ok (.lcmp, 1) := by decide +kernel
theorem dL_law_240 : decode cL_law 240 = .ok (.ifCond .eq 5, 3) := by decide +kernel
theorem dL_law_243 : decode cL_law 243 = .ok (.iconst 0, 1) := by decide +kernel
theorem dL_law_244 : decode cL_law 244 = .ok (.ireturn, 1) := by decide +kernel
theorem dL_law_245 : decode cL_law 245 = .ok (.goto 1654, 3) := by decide +kernel
theorem dL_law_248 : decode cL_law 248 = .ok (.aload_n 1, 1) := by decide +kernel
theorem dL_law_249 : decode cL_law 249 = .ok (.aload_n 0, 1) := by decide +kernel
theorem dL_law_250 : decode cL_law 250 = .ok (.iload 5, 2) := by decide +kernel
theorem dL_law_252 : decode cL_law 252 = .ok (.iconst 1, 1) := by decide +kernel
theorem dL_law_253 : decode cL_law 253 = .ok (.iadd, 1) := by decide +kernel
theorem dL_law_254 : decode cL_law 254 = .ok (.iaload, 1) := by decide +kernel
theorem dL_law_255 : decode cL_law 255 = .ok (.aload_n 3, 1) := by decide +kernel
theorem dL_law_256 : decode cL_law 256 = .ok (.invokestatic 111, 3) := by decide +kernel
theorem dL_law_259 : decode cL_law 259 = .ok (.istore 6, 2) := by decide +kernel
theorem dL_law_261 : decode cL_law 261 = .ok (.aload_n 2, 1) := by decide +kernel
theorem dL_law_262 : decode cL_law 262 = .ok (.aload_n 0, 1) := by decide +kernel
theorem dL_law_263 : decode cL_law 263 = .ok (.iload 5, 2) := by decide +kernel
theorem dL_law_265 : decode cL_law 265 = .ok (.iconst 1, 1) := by decide +kernel
theorem dL_law_266 : decode cL_law 266 = .ok (.iadd, 1) := by decide +kernel
theorem dL_law_267 : decode cL_law 267 = .ok (.iaload, 1) := by decide +kernel
theorem dL_law_268 : decode cL_law 268 = .ok (.invokevirtual 114, 3) := by decide +kernel
theorem dL_law_271 : decode cL_law 271 = .ok (.istore 7, 2) := by decide +kernel
theorem dL_law_273 : decode cL_law 273 = .ok (.aload_n 2, 1) := by decide +kernel
theorem dL_law_274 : decode cL_law 274 = .ok (.invokevirtual 107, 3) := by decide +kernel
theorem dL_law_277 : decode cL_law 277 = .ok (.iload 6, 2) := by decide +kernel
theorem dL_law_279 : decode cL_law 279 = .ok (.if_icmp .eq 5, 3) := by decide +kernel
theorem dL_law_282 : decode cL_law 282 = .ok (.iconst 0, 1) := by decide +kernel
theorem dL_law_283 : decode cL_law 283 = .ok (.ireturn, 1) := by decide +kernel
theorem dL_law_284 : decode cL_law 284 = .ok (.iload 6, 2) := by decide +kernel
theorem dL_law_286 : decode cL_law 286 = .ok (.ifCond .ne 15, 3) := by decide +kernel
theorem dL_law_289 : decode cL_law 289 = .ok (.aload_n 3, 1) := by decide +kernel
theorem dL_law_290 : decode cL_law 290 = .ok (.iconst 0, 1) := by decide +kernel
theorem dL_law_291 : decode cL_law 291 = .ok (.laload, 1) := by decide +kernel
theorem dL_law_292 : decode cL_law 292 = .ok (.iload 7, 2) := by decide +kernel
theorem dL_law_294 : decode cL_law 294 = .ok (.i2l, 1) := by decide +kernel
theorem dL_law_295 : decode cL_law 295 = .ok (.lcmp, 1) := by decide +kernel
theorem dL_law_296 : decode cL_law 296 = .ok (.ifCond .eq 5, 3) := by decide +kernel
theorem dL_law_299 : decode cL_law 299 = .ok (.iconst 0, 1) := by decide +kernel
theorem dL_law_300 : decode cL_law 300 = .ok (.ireturn, 1) := by decide +kernel
theorem dL_law_301 : decode cL_law 301 = .ok (.goto 1598, 3) := by decide +kernel
theorem dL_law_304 : decode cL_law 304 = .ok (.aload_n 1, 1) := by decide +kernel
theorem dL_law_305 : decode cL_law 305 = .ok (.aload_n 0, 1) := by decide +kernel
theorem dL_law_306 : decode cL_law 306 = .ok (.iload 5, 2) := by decide +kernel
theorem dL_law_308 : decode cL_law 308 = .ok (.iconst 1, 1) := by decide +kernel
theorem dL_law_309 : decode cL_law 309 = .ok (.iadd, 1) := by decide +kernel
theorem dL_law_310 : decode cL_law 310 = .ok (.iaload, 1) := by decide +kernel
theorem dL_law_311 : decode cL_law 311 = .ok (.aload_n 3, 1) := by decide +kernel
theorem dL_law_312 : decode cL_law 312 = .ok (.invokestatic 115, 3) := by decide +kernel
theorem dL_law_315 : decode cL_law 315 = .ok (.istore 6, 2) := by decide +kernel
theorem dL_law_317 : decode cL_law 317 = .ok (.aload_n 2, 1) := by decide +kernel
theorem dL_law_318 : decode cL_law 318 = .ok (.aload_n 0, 1) := by decide +kernel
theorem dL_law_319 : decode cL_law 319 = .ok (.iload 5, 2) := by decide +kernel
theorem dL_law_321 : decode cL_law 321 = .ok (.iconst 1, 1) := by decide +kernel
theorem dL_law_322 : decode cL_law 322 = .ok (.iadd, 1) := by decide +kernel
theorem dL_law_323 : decode cL_law 323 = .ok (.iaload, 1) := by decide +kernel
theorem dL_law_324 : decode cL_law 324 = .ok (.invokevirtual 117, 3) := by decide +kernel
theorem dL_law_327 : decode cL_law 327 = .ok (.istore 7, 2) := by decide +kernel
theorem dL_law_329 : decode cL_law 329 = .ok (.aload_n 2, 1) := by decide +kernel
theorem dL_law_330 : decode cL_law 330 = .ok (.invokevirtual 107, 3) := by decide +kernel
theorem dL_law_333 : decode cL_law 333 = .ok (.iload 6, 2) := by decide +kernel
theorem dL_law_335 : decode cL_law 335 = .ok (.if_icmp .eq 5, 3) := by decide +kernel
theorem dL_law_338 : decode cL_law 338 = .ok (.iconst 0, 1) := by decide +kernel
theorem dL_law_339 : decode cL_law 339 = .ok (.ireturn, 1) := by decide +kernel
theorem dL_law_340 : decode cL_law 340 = .ok (.iload 6, 2) := by decide +kernel
theorem dL_law_342 : decode cL_law 342 = .ok (.ifCond .ne 15, 3) := by decide +kernel
theorem dL_law_345 : decode cL_law 345 = .ok (.aload_n 3, 1) := by decide +kernel
theorem dL_law_346 : decode cL_law 346 = .ok (.iconst 0, 1) := by decide +kernel
theorem dL_law_347 : decode cL_law 347 = .ok (.laload, 1) := by decide +kernel
theorem dL_law_348 : decode cL_law 348 = .ok (.iload 7, 2) := by decide +kernel
theorem dL_law_350 : decode cL_law 350 = .ok (.i2l, 1) := by decide +kernel
theorem dL_law_351 : decode cL_law 351 = .ok (.lcmp, 1) := by decide +kernel
theorem dL_law_352 : decode cL_law 352 = .ok (.ifCond .eq 5, 3) := by decide +kernel
theorem dL_law_355 : decode cL_law 355 = .ok (.iconst 0, 1) := by decide +kernel
theorem dL_law_356 : decode cL_law 356 = .ok (.ireturn, 1) := by decide +kernel
theorem dL_law_357 : decode cL_law 357 = .ok (.goto 1542, 3) := by decide +kernel
theorem dL_law_360 : decode cL_law 360 = .ok (.aload_n 1, 1) := by decide +kernel
theorem dL_law_361 : decode cL_law 361 = .ok (.aload_n 0, 1) := by decide +kernel
theorem dL_law_362 : decode cL_law 362 = .ok (.iload 5, 2) := by decide +kernel
theorem dL_law_364 : decode cL_law 364 = .ok (.iconst 1, 1) := by decide +kernel
theorem dL_law_365 : decode cL_law 365 = .ok (.iadd, 1) := by decide +kernel
theorem dL_law_366 : decode cL_law 366 = .ok (.iaload, 1) := by decide +kernel
theorem dL_law_367 : decode cL_law 367 = .ok (.aload_n 3, 1) := by decide +kernel
theorem dL_law_368 : decode cL_law 368 = .ok (.invokestatic 118, 3) := by decide +kernel
theorem dL_law_371 : decode cL_law 371 = .ok (.istore 6, 2) := by decide +kernel
theorem dL_law_373 : decode cL_law 373 = .ok (.aload_n 2, 1) := by decide +kernel
theorem dL_law_374 : decode cL_law 374 = .ok (.aload_n 0, 1) := by decide +kernel
theorem dL_law_375 : decode cL_law 375 = .ok (.iload 5, 2) := by decide +kernel
theorem dL_law_377 : decode cL_law 377 = .ok (.iconst 1, 1) := by decide +kernel
theorem dL_law_378 : decode cL_law 378 = .ok (.iadd, 1) := by decide +kernel
theorem dL_law_379 : decode cL_law 379 = .ok (.iaload, 1) := by decide +kernel
theorem dL_law_380 : decode cL_law 380 = .ok (.invokevirtual 120, 3) := by decide +kernel
theorem dL_law_383 : decode cL_law 383 = .ok (.istore 7, 2) := by decide +kernel
theorem dL_law_385 : decode cL_law 385 = .ok (.aload_n 2, 1) := by decide +kernel
theorem dL_law_386 : decode cL_law 386 = .ok (.invokevirtual 107, 3) := by decide +kernel
theorem dL_law_389 : decode cL_law 389 = .ok (.iload 6, 2) := by decide +kernel
theorem dL_law_391 : decode cL_law 391 = .ok (.if_icmp .eq 5, 3) := by decide +kernel
theorem dL_law_394 : decode cL_law 394 = .ok (.iconst 0, 1) := by decide +kernel
theorem dL_law_395 : decode cL_law 395 = .ok (.ireturn, 1) := by decide +kernel
theorem dL_law_396 : decode cL_law 396 = .ok (.iload 6, 2) := by decide +kernel
theorem dL_law_398 : decode cL_law 398 = .ok (.ifCond .ne 15, 3) := by decide +kernel
theorem dL_law_401 : decode cL_law 401 = .ok (.aload_n 3, 1) := by decide +kernel
theorem dL_law_402 : decode cL_law 402 = .ok (.iconst 0, 1) := by decide +kernel
theorem dL_law_403 : decode cL_law 403 = .ok (.laload, 1) := by decide +kernel
theorem dL_law_404 : decode cL_law 404 = .ok (.iload 7, 2) := by decide +kernel
theorem dL_law_406 : decode cL_law 406 = .ok (.i2l, 1) := by decide +kernel
theorem dL_law_407 : decode cL_law 407 = .ok (.lcmp, 1) := by decide +kernel
theorem dL_law_408 : decode cL_law 408 = .ok (.ifCond .eq 5, 3) := by decide +kernel
theorem dL_law_411 : decode cL_law 411 = .ok (.iconst 0, 1) := by decide +kernel
theorem dL_law_412 : decode cL_law 412 = .ok (.ireturn, 1) := by decide +kernel
theorem dL_law_413 : decode cL_law 413 = .ok (.goto 1486, 3) := by decide +kernel
theorem dL_law_416 : decode cL_law 416 = .ok (.aload_n 1, 1) := by decide +kernel
theorem dL_law_417 : decode cL_law 417 = .ok (.aload_n 0, 1) := by decide +kernel
theorem dL_law_418 : decode cL_law 418 = .ok (.iload 5, 2) := by decide +kernel
theorem dL_law_420 : decode cL_law 420 = .ok (.iconst 1, 1) := by decide +kernel
theorem dL_law_421 : decode cL_law 421 = .ok (.iadd, 1) := by decide +kernel
theorem dL_law_422 : decode cL_law 422 = .ok (.iaload, 1) := by decide +kernel
theorem dL_law_423 : decode cL_law 423 = .ok (.aload_n 0, 1) := by decide +kernel
theorem dL_law_424 : decode cL_law 424 = .ok (.iload 5, 2) := by decide +kernel
theorem dL_law_426 : decode cL_law 426 = .ok (.iconst 2, 1) := by decide +kernel
theorem dL_law_427 : decode cL_law 427 = .ok (.iadd, 1) := by decide +kernel
theorem dL_law_428 : decode cL_law 428 = .ok (.iaload, 1) := by decide +kernel
theorem dL_law_429 : decode cL_law 429 = .ok (.aload_n 3, 1) := by decide +kernel
theorem dL_law_430 : decode cL_law 430 = .ok (.invokestatic 121, 3) := by decide +kernel
theorem dL_law_433 : decode cL_law 433 = .ok (.istore 6, 2) := by decide +kernel
theorem dL_law_435 : decode cL_law 435 = .ok (.aload_n 2, 1) := by decide +kernel
theorem dL_law_436 : decode cL_law 436 = .ok (.aload_n 0, 1) := by decide +kernel
theorem dL_law_437 : decode cL_law 437 = .ok (.iload 5, 2) := by decide +kernel
theorem dL_law_439 : decode cL_law 439 = .ok (.iconst 1, 1) := by decide +kernel
theorem dL_law_440 : decode cL_law 440 = .ok (.iadd, 1) := by decide +kernel
theorem dL_law_441 : decode cL_law 441 = .ok (.iaload, 1) := by decide +kernel
theorem dL_law_442 : decode cL_law 442 = .ok (.aload_n 0, 1) := by decide +kernel
theorem dL_law_443 : decode cL_law 443 = .ok (.iload 5, 2) := by decide +kernel
theorem dL_law_445 : decode cL_law 445 = .ok (.iconst 2, 1) := by decide +kernel
theorem dL_law_446 : decode cL_law 446 = .ok (.iadd, 1) := by decide +kernel
theorem dL_law_447 : decode cL_law 447 = .ok (.iaload, 1) := by decide +kernel
theorem dL_law_448 : decode cL_law 448 = .ok (.invokevirtual 124, 3) := by decide +kernel
theorem dL_law_451 : decode cL_law 451 = .ok (.istore 7, 2) := by decide +kernel
theorem dL_law_453 : decode cL_law 453 = .ok (.aload_n 2, 1) := by decide +kernel
theorem dL_law_454 : decode cL_law 454 = .ok (.invokevirtual 107, 3) := by decide +kernel
theorem dL_law_457 : decode cL_law 457 = .ok (.iload 6, 2) := by decide +kernel
theorem dL_law_459 : decode cL_law 459 = .ok (.if_icmp .eq 5, 3) := by decide +kernel
theorem dL_law_462 : decode cL_law 462 = .ok (.iconst 0, 1) := by decide +kernel
theorem dL_law_463 : decode cL_law 463 = .ok (.ireturn, 1) := by decide +kernel
theorem dL_law_464 : decode cL_law 464 = .ok (.iload 6, 2) := by decide +kernel
theorem dL_law_466 : decode cL_law 466 = .ok (.ifCond .ne 15, 3) := by decide +kernel
theorem dL_law_469 : decode cL_law 469 = .ok (.aload_n 3, 1) := by decide +kernel
theorem dL_law_470 : decode cL_law 470 = .ok (.iconst 0, 1) := by decide +kernel
theorem dL_law_471 : decode cL_law 471 = .ok (.laload, 1) := by decide +kernel
theorem dL_law_472 : decode cL_law 472 = .ok (.iload 7, 2) := by decide +kernel
theorem dL_law_474 : decode cL_law 474 = .ok (.i2l, 1) := by decide +kernel
theorem dL_law_475 : decode cL_law 475 = .ok (.lcmp, 1) := by decide +kernel
theorem dL_law_476 : decode cL_law 476 = .ok (.ifCond .eq 5, 3) := by decide +kernel
theorem dL_law_479 : decode cL_law 479 = .ok (.iconst 0, 1) := by decide +kernel
theorem dL_law_480 : decode cL_law 480 = .ok (.ireturn, 1) := by decide +kernel
theorem dL_law_481 : decode cL_law 481 = .ok (.goto 1418, 3) := by decide +kernel
theorem dL_law_484 : decode cL_law 484 = .ok (.aload_n 1, 1) := by decide +kernel
theorem dL_law_485 : decode cL_law 485 = .ok (.aload_n 0, 1) := by decide +kernel
theorem dL_law_486 : decode cL_law 486 = .ok (.iload 5, 2) := by decide +kernel
theorem dL_law_488 : decode cL_law 488 = .ok (.iconst 1, 1) := by decide +kernel
theorem dL_law_489 : decode cL_law 489 = .ok (.iadd, 1) := by decide +kernel
theorem dL_law_490 : decode cL_law 490 = .ok (.iaload, 1) := by decide +kernel
theorem dL_law_491 : decode cL_law 491 = .ok (.aload 4, 2) := by decide +kernel
theorem dL_law_493 : decode cL_law 493 = .ok (.invokestatic 125, 3) := by decide +kernel
theorem dL_law_496 : decode cL_law 496 = .ok (.istore 6, 2) := by decide +kernel
theorem dL_law_498 : decode cL_law 498 = .ok (.aload_n 2, 1) := by decide +kernel
theorem dL_law_499 : decode cL_law 499 = .ok (.aload_n 0, 1) := by decide +kernel
theorem dL_law_500 : decode cL_law 500 = .ok (.iload 5, 2) := by decide +kernel
theorem dL_law_502 : decode cL_law 502 = .ok (.iconst 1, 1) := by decide +kernel
theorem dL_law_503 : decode cL_law 503 = .ok (.iadd, 1) := by decide +kernel
theorem dL_law_504 : decode cL_law 504 = .ok (.iaload, 1) := by decide +kernel
theorem dL_law_505 : decode cL_law 505 = .ok (.invokevirtual 128, 3) := by decide +kernel
theorem dL_law_508 : decode cL_law 508 = .ok (.dstore 7, 2) := by decide +kernel
theorem dL_law_510 : decode cL_law 510 = .ok (.aload_n 2, 1) := by decide +kernel
theorem dL_law_511 : decode cL_law 511 = .ok (.invokevirtual 107, 3) := by decide +kernel
theorem dL_law_514 : decode cL_law 514 = .ok (.iload 6, 2) := by decide +kernel
theorem dL_law_516 : decode cL_law 516 = .ok (.if_icmp .eq 5, 3) := by decide +kernel
theorem dL_law_519 : decode cL_law 519 = .ok (.iconst 0, 1) := by decide +kernel
theorem dL_law_520 : decode cL_law 520 = .ok (.ireturn, 1) := by decide +kernel
theorem dL_law_521 : decode cL_law 521 = .ok (.iload 6, 2) := by decide +kernel
theorem dL_law_523 : decode cL_law 523 = .ok (.ifCond .ne 35, 3) := by decide +kernel
theorem dL_law_526 : decode cL_law 526 = .ok (.aload 4, 2) := by decide +kernel
theorem dL_law_528 : decode cL_law 528 = .ok (.iconst 0, 1) := by decide +kernel
theorem dL_law_529 : decode cL_law 529 = .ok (.daload, 1) := by decide +kernel
theorem dL_law_530 : decode cL_law 530 = .ok (.dload 7, 2) := by decide +kernel
theorem dL_law_532 : decode cL_law 532 = .ok (.dcmp .l, 1) := by decide +kernel
theorem dL_law_533 : decode cL_law 533 = .ok (.ifCond .eq 25, 3) := by decide +kernel
theorem dL_law_536 : decode cL_law 536 = .ok (.aload 4, 2) := by decide +kernel
theorem dL_law_538 : decode cL_law 538 = .ok (.iconst 0, 1) := by decide +kernel
theorem dL_law_539 : decode cL_law 539 = .ok (.daload, 1) := by decide +kernel
theorem dL_law_540 : decode cL_law 540 = .ok (.aload 4, 2) := by decide +kernel
theorem dL_law_542 : decode cL_law 542 = .ok (.iconst 0, 1) := by decide +kernel
theorem dL_law_543 : decode cL_law 543 = .ok (.daload, 1) := by decide +kernel
theorem dL_law_544 : decode cL_law 544 = .ok (.dcmp .l, 1) := by decide +kernel
theorem dL_law_545 : decode cL_law 545 = .ok (.ifCond .eq 11, 3) := by decide +kernel
theorem dL_law_548 : decode cL_law 548 = .ok (.dload 7, 2) := by decide +kernel
theorem dL_law_550 : decode cL_law 550 = .ok (.dload 7, 2) := by decide +kernel
theorem dL_law_552 : decode cL_law 552 = .ok (.dcmp .l, 1) := by decide +kernel
theorem dL_law_553 : decode cL_law 553 = .ok (.ifCond .ne 5, 3) := by decide +kernel
theorem dL_law_556 : decode cL_law 556 = .ok (.iconst 0, 1) := by decide +kernel
theorem dL_law_557 : decode cL_law 557 = .ok (.ireturn, 1) := by decide +kernel
theorem dL_law_558 : decode cL_law 558 = .ok (.goto 1341, 3) := by decide +kernel
theorem dL_law_561 : decode cL_law 561 = .ok (.aload_n 1, 1) := by decide +kernel
theorem dL_law_562 : decode cL_law 562 = .ok (.aload_n 0, 1) := by decide +kernel
theorem dL_law_563 : decode cL_law 563 = .ok (.iload 5, 2) := by decide +kernel
theorem dL_law_565 : decode cL_law 565 = .ok (.iconst 1, 1) := by decide +kernel
theorem dL_law_566 : decode cL_law 566 = .ok (.iadd, 1) := by decide +kernel
theorem dL_law_567 : decode cL_law 567 = .ok (.iaload, 1) := by decide +kernel
theorem dL_law_568 : decode cL_law 568 = .ok (.aload_n 0, 1) := by decide +kernel
theorem dL_law_569 : decode cL_law 569 = .ok (.iload 5, 2) := by decide +kernel
theorem dL_law_571 : decode cL_law 571 = .ok (.iconst 2, 1) := by decide +kernel
theorem dL_law_572 : decode cL_law 572 = .ok (.iadd, 1) := by decide +kernel
theorem dL_law_573 : decode cL_law 573 = .ok (.iaload, 1) := by decide +kernel
theorem dL_law_574 : decode cL_law 574 = .ok (.aload_n 3, 1) := by decide +kernel
theorem dL_law_575 : decode cL_law 575 = .ok (.invokestatic 129, 3) := by decide +kernel
theorem dL_law_578 : decode cL_law 578 = .ok (.istore 6, 2) := by decide +kernel
theorem dL_law_580 : decode cL_law 580 = .ok (.aload_n 2, 1) := by decide +kernel
theorem dL_law_581 : decode cL_law 581 = .ok (.aload_n 0, 1) := by decide +kernel
theorem dL_law_582 : decode cL_law 582 = .ok (.iload 5, 2) := by decide +kernel
theorem dL_law_584 : decode cL_law 584 = .ok (.iconst 1, 1) := by decide +kernel
theorem dL_law_585 : decode cL_law 585 = .ok (.iadd, 1) := by decide +kernel
theorem dL_law_586 : decode cL_law 586 = .ok (.iaload, 1) := by decide +kernel
theorem dL_law_587 : decode cL_law 587 = .ok (.aload_n 0, 1) := by decide +kernel
theorem dL_law_588 : decode cL_law 588 = .ok (.iload 5, 2) := by decide +kernel
theorem dL_law_590 : decode cL_law 590 = .ok (.iconst 2, 1) := by decide +kernel
theorem dL_law_591 : decode cL_law 591 = .ok (.iadd, 1) := by decide +kernel
theorem dL_law_592 : decode cL_law 592 = .ok (.iaload, 1) := by decide +kernel
theorem dL_law_593 : decode cL_law 593 = .ok (.invokevirtual 131, 3) := by decide +kernel
theorem dL_law_596 : decode cL_law 596 = .ok (.istore 7, 2) := by decide +kernel
theorem dL_law_598 : decode cL_law 598 = .ok (.aload_n 2, 1) := by decide +kernel
theorem dL_law_599 : decode cL_law 599 = .ok (.invokevirtual 107, 3) := by decide +kernel
theorem dL_law_602 : decode cL_law 602 = .ok (.iload 6, 2) := by decide +kernel
theorem dL_law_604 : decode cL_law 604 = .ok (.if_icmp .eq 5, 3) := by decide +kernel
theorem dL_law_607 : decode cL_law 607 = .ok (.iconst 0, 1) := by decide +kernel
theorem dL_law_608 : decode cL_law 608 = .ok (.ireturn, 1) := by decide +kernel
theorem dL_law_609 : decode cL_law 609 = .ok (.iload 6, 2) := by decide +kernel
theorem dL_law_611 : decode cL_law 611 = .ok (.ifCond .ne 15, 3) := by decide +kernel
theorem dL_law_614 : decode cL_law 614 = .ok (.aload_n 3, 1) := by decide +kernel
theorem dL_law_615 : decode cL_law 615 = .ok (.iconst 0, 1) := by decide +kernel
theorem dL_law_616 : decode cL_law 616 = .ok (.laload, 1) := by decide +kernel
theorem dL_law_617 : decode cL_law 617 = .ok (.iload 7, 2) := by decide +kernel
theorem dL_law_619 : decode cL_law 619 = .ok (.i2l, 1) := by decide +kernel
theorem dL_law_620 : decode cL_law 620 = .ok (.lcmp, 1) := by decide +kernel
theorem dL_law_621 : decode cL_law 621 = .ok (.ifCond .eq 5, 3) := by decide +kernel
theorem dL_law_624 : decode cL_law 624 = .ok (.iconst 0, 1) := by decide +kernel
theorem dL_law_625 : decode cL_law 625 = .ok (.ireturn, 1) := by decide +kernel
theorem dL_law_626 : decode cL_law 626 = .ok (.goto 1273, 3) := by decide +kernel
theorem dL_law_629 : decode cL_law 629 = .ok (.aload_n 1, 1) := by decide +kernel
theorem dL_law_630 : decode cL_law 630 = .ok (.aload_n 0, 1) := by decide +kernel
theorem dL_law_631 : decode cL_law 631 = .ok (.iload 5, 2) := by decide +kernel
theorem dL_law_633 : decode cL_law 633 = .ok (.iconst 1, 1) := by decide +kernel
theorem dL_law_634 : decode cL_law 634 = .ok (.iadd, 1) := by decide +kernel
theorem dL_law_635 : decode cL_law 635 = .ok (.iaload, 1) := by decide +kernel
theorem dL_law_636 : decode cL_law 636 = .ok (.aload_n 0, 1) := by decide +kernel
theorem dL_law_637 : decode cL_law 637 = .ok (.iload 5, 2) := by decide +kernel
theorem dL_law_639 : decode cL_law 639 = .ok (.iconst 2, 1) := by decide +kernel
theorem dL_law_640 : decode cL_law 640 = .ok (.iadd, 1) := by decide +kernel
theorem dL_law_641 : decode cL_law 641 = .ok (.iaload, 1) := by decide +kernel
theorem dL_law_642 : decode cL_law 642 = .ok (.aload_n 3, 1) := by decide +kernel
theorem dL_law_643 : decode cL_law 643 = .ok (.invokestatic 132, 3) := by decide +kernel
theorem dL_law_646 : decode cL_law 646 = .ok (.istore 6, 2) := by decide +kernel
theorem dL_law_648 : decode cL_law 648 = .ok (.aload_n 2, 1) := by decide +kernel
theorem dL_law_649 : decode cL_law 649 = .ok (.aload_n 0, 1) := by decide +kernel
theorem dL_law_650 : decode cL_law 650 = .ok (.iload 5, 2) := by decide +kernel
theorem dL_law_652 : decode cL_law 652 = .ok (.iconst 1, 1) := by decide +kernel
theorem dL_law_653 : decode cL_law 653 = .ok (.iadd, 1) := by decide +kernel
theorem dL_law_654 : decode cL_law 654 = .ok (.iaload, 1) := by decide +kernel
theorem dL_law_655 : decode cL_law 655 = .ok (.aload_n 0, 1) := by decide +kernel
theorem dL_law_656 : decode cL_law 656 = .ok (.iload 5, 2) := by decide +kernel
theorem dL_law_658 : decode cL_law 658 = .ok (.iconst 2, 1) := by decide +kernel
theorem dL_law_659 : decode cL_law 659 = .ok (.iadd, 1) := by decide +kernel
theorem dL_law_660 : decode cL_law 660 = .ok (.iaload, 1) := by decide +kernel
theorem dL_law_661 : decode cL_law 661 = .ok (.invokevirtual 134, 3) := by decide +kernel
theorem dL_law_664 : decode cL_law 664 = .ok (.istore 7, 2) := by decide +kernel
theorem dL_law_666 : decode cL_law 666 = .ok (.aload_n 2, 1) := by decide +kernel
theorem dL_law_667 : decode cL_law 667 = .ok (.invokevirtual 107, 3) := by decide +kernel
theorem dL_law_670 : decode cL_law 670 = .ok (.iload 6, 2) := by decide +kernel
theorem dL_law_672 : decode cL_law 672 = .ok (.if_icmp .eq 5, 3) := by decide +kernel
theorem dL_law_675 : decode cL_law 675 = .ok (.iconst 0, 1) := by decide +kernel
theorem dL_law_676 : decode cL_law 676 = .ok (.ireturn, 1) := by decide +kernel
theorem dL_law_677 : decode cL_law 677 = .ok (.iload 6, 2) := by decide +kernel
theorem dL_law_679 : decode cL_law 679 = .ok (.ifCond .ne 15, 3) := by decide +kernel
theorem dL_law_682 : decode cL_law 682 = .ok (.aload_n 3, 1) := by decide +kernel
theorem dL_law_683 : decode cL_law 683 = .ok (.iconst 0, 1) := by decide +kernel
theorem dL_law_684 : decode cL_law 684 = .ok (.laload, 1) := by decide +kernel
theorem dL_law_685 : decode cL_law 685 = .ok (.iload 7, 2) := by decide +kernel
theorem dL_law_687 : decode cL_law 687 = .ok (.i2l, 1) := by decide +kernel
theorem dL_law_688 : decode cL_law 688 = .ok (.lcmp, 1) := by decide +kernel
theorem dL_law_689 : decode cL_law 689 = .ok (.ifCond .eq 5, 3) := by decide +kernel
theorem dL_law_692 : decode cL_law 692 = .ok (.iconst 0, 1) := by decide +kernel
theorem dL_law_693 : decode cL_law 693 = .ok (.ireturn, 1) := by decide +kernel
theorem dL_law_694 : decode cL_law 694 = .ok (.goto 1205, 3) := by decide +kernel
theorem dL_law_697 : decode cL_law 697 = .ok (.aload_n 1, 1) := by decide +kernel
theorem dL_law_698 : decode cL_law 698 = .ok (.aload_n 0, 1) := by decide +kernel
theorem dL_law_699 : decode cL_law 699 = .ok (.iload 5, 2) := by decide +kernel
theorem dL_law_701 : decode cL_law 701 = .ok (.iconst 1, 1) := by decide +kernel
theorem dL_law_702 : decode cL_law 702 = .ok (.iadd, 1) := by decide +kernel
theorem dL_law_703 : decode cL_law 703 = .ok (.iaload, 1) := by decide +kernel
theorem dL_law_704 : decode cL_law 704 = .ok (.aload_n 3, 1) := by decide +kernel
theorem dL_law_705 : decode cL_law 705 = .ok (.invokestatic 135, 3) := by decide +kernel
theorem dL_law_708 : decode cL_law 708 = .ok (.istore 6, 2) := by decide +kernel
theorem dL_law_710 : decode cL_law 710 = .ok (.aload_n 2, 1) := by decide +kernel
theorem dL_law_711 : decode cL_law 711 = .ok (.aload_n 0, 1) := by decide +kernel
theorem dL_law_712 : decode cL_law 712 = .ok (.iload 5, 2) := by decide +kernel
theorem dL_law_714 : decode cL_law 714 = .ok (.iconst 1, 1) := by decide +kernel
theorem dL_law_715 : decode cL_law 715 = .ok (.iadd, 1) := by decide +kernel
theorem dL_law_716 : decode cL_law 716 = .ok (.iaload, 1) := by decide +kernel
theorem dL_law_717 : decode cL_law 717 = .ok (.invokevirtual 137, 3) := by decide +kernel
theorem dL_law_720 : decode cL_law 720 = .ok (.istore 7, 2) := by decide +kernel
theorem dL_law_722 : decode cL_law 722 = .ok (.aload_n 2, 1) := by decide +kernel
theorem dL_law_723 : decode cL_law 723 = .ok (.invokevirtual 107, 3) := by decide +kernel
theorem dL_law_726 : decode cL_law 726 = .ok (.iload 6, 2) := by decide +kernel
theorem dL_law_728 : decode cL_law 728 = .ok (.if_icmp .eq 5, 3) := by decide +kernel
theorem dL_law_731 : decode cL_law 731 = .ok (.iconst 0, 1) := by decide +kernel
theorem dL_law_732 : decode cL_law 732 = .ok (.ireturn, 1) := by decide +kernel
theorem dL_law_733 : decode cL_law 733 = .ok (.iload 6, 2) := by decide +kernel
theorem dL_law_735 : decode cL_law 735 = .ok (.ifCond .ne 15, 3) := by decide +kernel
theorem dL_law_738 : decode cL_law 738 = .ok (.aload_n 3, 1) := by decide +kernel
theorem dL_law_739 : decode cL_law 739 = .ok (.iconst 0, 1) := by decide +kernel
theorem dL_law_740 : decode cL_law 740 = .ok (.laload, 1) := by decide +kernel
theorem dL_law_741 : decode cL_law 741 = .ok (.iload 7, 2) := by decide +kernel
theorem dL_law_743 : decode cL_law 743 = .ok (.i2l, 1) := by decide +kernel
theorem dL_law_744 : decode cL_law 744 = .ok (.lcmp, 1) := by decide +kernel
theorem dL_law_745 : decode cL_law 745 = .ok (.ifCond .eq 5, 3) := by decide +kernel
theorem dL_law_748 : decode cL_law 748 = .ok (.iconst 0, 1) := by decide +kernel
theorem dL_law_749 : decode cL_law 749 = .ok (.ireturn, 1) := by decide +kernel
theorem dL_law_750 : decode cL_law 750 = .ok (.goto 1149, 3) := by decide +kernel
theorem dL_law_753 : decode cL_law 753 = .ok (.aload_n 1, 1) := by decide +kernel
theorem dL_law_754 : decode cL_law 754 = .ok (.aload_n 0, 1) := by decide +kernel
theorem dL_law_755 : decode cL_law 755 = .ok (.iload 5, 2) := by decide +kernel
theorem dL_law_757 : decode cL_law 757 = .ok (.iconst 1, 1) := by decide +kernel
theorem dL_law_758 : decode cL_law 758 = .ok (.iadd, 1) := by decide +kernel
theorem dL_law_759 : decode cL_law 759 = .ok (.iaload, 1) := by decide +kernel
theorem dL_law_760 : decode cL_law 760 = .ok (.aload_n 0, 1) := by decide +kernel
theorem dL_law_761 : decode cL_law 761 = .ok (.iload 5, 2) := by decide +kernel
theorem dL_law_763 : decode cL_law 763 = .ok (.iconst 2, 1) := by decide +kernel
theorem dL_law_764 : decode cL_law 764 = .ok (.iadd, 1) := by decide +kernel
theorem dL_law_765 : decode cL_law 765 = .ok (.iaload, 1) := by decide +kernel
theorem dL_law_766 : decode cL_law 766 = .ok (.aload_n 0, 1) := by decide +kernel
theorem dL_law_767 : decode cL_law 767 = .ok (.iload 5, 2) := by decide +kernel
theorem dL_law_769 : decode cL_law 769 = .ok (.iconst 3, 1) := by decide +kernel
theorem dL_law_770 : decode cL_law 770 = .ok (.iadd, 1) := by decide +kernel
theorem dL_law_771 : decode cL_law 771 = .ok (.iaload, 1) := by decide +kernel
theorem dL_law_772 : decode cL_law 772 = .ok (.aload_n 3, 1) := by decide +kernel
theorem dL_law_773 : decode cL_law 773 = .ok (.invokestatic 138, 3) := by decide +kernel
theorem dL_law_776 : decode cL_law 776 = .ok (.istore 6, 2) := by decide +kernel
theorem dL_law_778 : decode cL_law 778 = .ok (.aload_n 2, 1) := by decide +kernel
theorem dL_law_779 : decode cL_law 779 = .ok (.aload_n 0, 1) := by decide +kernel
theorem dL_law_780 : decode cL_law 780 = .ok (.iload 5, 2) := by decide +kernel
theorem dL_law_782 : decode cL_law 782 = .ok (.iconst 1, 1) := by decide +kernel
theorem dL_law_783 : decode cL_law 783 = .ok (.iadd, 1) := by decide +kernel
theorem dL_law_784 : decode cL_law 784 = .ok (.iaload, 1) := by decide +kernel
theorem dL_law_785 : decode cL_law 785 = .ok (.aload_n 0, 1) := by decide +kernel
theorem dL_law_786 : decode cL_law 786 = .ok (.iload 5, 2) := by decide +kernel
theorem dL_law_788 : decode cL_law 788 = .ok (.iconst 2, 1) := by decide +kernel
theorem dL_law_789 : decode cL_law 789 = .ok (.iadd, 1) := by decide +kernel
theorem dL_law_790 : decode cL_law 790 = .ok (.iaload, 1) := by decide +kernel
theorem dL_law_791 : decode cL_law 791 = .ok (.aload_n 0, 1) := by decide +kernel
theorem dL_law_792 : decode cL_law 792 = .ok (.iload 5, 2) := by decide +kernel
theorem dL_law_794 : decode cL_law 794 = .ok (.iconst 3, 1) := by decide +kernel
theorem dL_law_795 : decode cL_law 795 = .ok (.iadd, 1) := by decide +kernel
theorem dL_law_796 : decode cL_law 796 = .ok (.iaload, 1) := by decide +kernel
theorem dL_law_797 : decode cL_law 797 = .ok (.invokevirtual 140, 3) := by decide +kernel
theorem dL_law_800 : decode cL_law 800 = .ok (.istore 7, 2) := by decide +kernel
theorem dL_law_802 : decode cL_law 802 = .ok (.aload_n 2, 1) := by decide +kernel
theorem dL_law_803 : decode cL_law 803 = .ok (.invokevirtual 107, 3) := by decide +kernel
theorem dL_law_806 : decode cL_law 806 = .ok (.iload 6, 2) := by decide +kernel
theorem dL_law_808 : decode cL_law 808 = .ok (.if_icmp .eq 5, 3) := by decide +kernel
theorem dL_law_811 : decode cL_law 811 = .ok (.iconst 0, 1) := by decide +kernel
theorem dL_law_812 : decode cL_law 812 = .ok (.ireturn, 1) := by decide +kernel
theorem dL_law_813 : decode cL_law 813 = .ok (.iload 6, 2) := by decide +kernel
theorem dL_law_815 : decode cL_law 815 = .ok (.ifCond .ne 15, 3) := by decide +kernel
theorem dL_law_818 : decode cL_law 818 = .ok (.aload_n 3, 1) := by decide +kernel
theorem dL_law_819 : decode cL_law 819 = .ok (.iconst 0, 1) := by decide +kernel
theorem dL_law_820 : decode cL_law 820 = .ok (.laload, 1) := by decide +kernel
theorem dL_law_821 : decode cL_law 821 = .ok (.iload 7, 2) := by decide +kernel
theorem dL_law_823 : decode cL_law 823 = .ok (.i2l, 1) := by decide +kernel
theorem dL_law_824 : decode cL_law 824 = .ok (.lcmp, 1) := by decide +kernel
theorem dL_law_825 : decode cL_law 825 = .ok (.ifCond .eq 5, 3) := by decide +kernel
theorem dL_law_828 : decode cL_law 828 = .ok (.iconst 0, 1) := by decide +kernel
theorem dL_law_829 : decode cL_law 829 = .ok (.ireturn, 1) := by decide +kernel
theorem dL_law_830 : decode cL_law 830 = .ok (.goto 1069, 3) := by decide +kernel
theorem dL_law_833 : decode cL_law 833 = .ok (.aload_n 1, 1) := by decide +kernel
theorem dL_law_834 : decode cL_law 834 = .ok (.aload_n 0, 1) := by decide +kernel
theorem dL_law_835 : decode cL_law 835 = .ok (.iload 5, 2) := by decide +kernel
theorem dL_law_837 : decode cL_law 837 = .ok (.iconst 1, 1) := by decide +kernel
theorem dL_law_838 : decode cL_law 838 = .ok (.iadd, 1) := by decide +kernel
theorem dL_law_839 : decode cL_law 839 = .ok (.iaload, 1) := by decide +kernel
theorem dL_law_840 : decode cL_law 840 = .ok (.aload_n 0, 1) := by decide +kernel
theorem dL_law_841 : decode cL_law 841 = .ok (.iload 5, 2) := by decide +kernel
theorem dL_law_843 : decode cL_law 843 = .ok (.iconst 2, 1) := by decide +kernel
theorem dL_law_844 : decode cL_law 844 = .ok (.iadd, 1) := by decide +kernel
theorem dL_law_845 : decode cL_law 845 = .ok (.iaload, 1) := by decide +kernel
theorem dL_law_846 : decode cL_law 846 = .ok (.aload_n 0, 1) := by decide +kernel
theorem dL_law_847 : decode cL_law 847 = .ok (.iload 5, 2) := by decide +kernel
theorem dL_law_849 : decode cL_law 849 = .ok (.iconst 3, 1) := by decide +kernel
theorem dL_law_850 : decode cL_law 850 = .ok (.iadd, 1) := by decide +kernel
theorem dL_law_851 : decode cL_law 851 = .ok (.iaload, 1) := by decide +kernel
theorem dL_law_852 : decode cL_law 852 = .ok (.aload_n 3, 1) := by decide +kernel
theorem dL_law_853 : decode cL_law 853 = .ok (.invokestatic 141, 3) := by decide +kernel
theorem dL_law_856 : decode cL_law 856 = .ok (.istore 6, 2) := by decide +kernel
theorem dL_law_858 : decode cL_law 858 = .ok (.aload_n 2, 1) := by decide +kernel
theorem dL_law_859 : decode cL_law 859 = .ok (.aload_n 0, 1) := by decide +kernel
theorem dL_law_860 : decode cL_law 860 = .ok (.iload 5, 2) := by decide +kernel
theorem dL_law_862 : decode cL_law 862 = .ok (.iconst 1, 1) := by decide +kernel
theorem dL_law_863 : decode cL_law 863 = .ok (.iadd, 1) := by decide +kernel
theorem dL_law_864 : decode cL_law 864 = .ok (.iaload, 1) := by decide +kernel
theorem dL_law_865 : decode cL_law 865 = .ok (.aload_n 0, 1) := by decide +kernel
theorem dL_law_866 : decode cL_law 866 = .ok (.iload 5, 2) := by decide +kernel
theorem dL_law_868 : decode cL_law 868 = .ok (.iconst 2, 1) := by decide +kernel
theorem dL_law_869 : decode cL_law 869 = .ok (.iadd, 1) := by decide +kernel
theorem dL_law_870 : decode cL_law 870 = .ok (.iaload, 1) := by decide +kernel
theorem dL_law_871 : decode cL_law 871 = .ok (.aload_n 0, 1) := by decide +kernel
theorem dL_law_872 : decode cL_law 872 = .ok (.iload 5, 2) := by decide +kernel
theorem dL_law_874 : decode cL_law 874 = .ok (.iconst 3, 1) := by decide +kernel
theorem dL_law_875 : decode cL_law 875 = .ok (.iadd, 1) := by decide +kernel
theorem dL_law_876 : decode cL_law 876 = .ok (.iaload, 1) := by decide +kernel
theorem dL_law_877 : decode cL_law 877 = .ok (.invokevirtual 143, 3) := by decide +kernel
theorem dL_law_880 : decode cL_law 880 = .ok (.istore 7, 2) := by decide +kernel
theorem dL_law_882 : decode cL_law 882 = .ok (.aload_n 2, 1) := by decide +kernel
theorem dL_law_883 : decode cL_law 883 = .ok (.invokevirtual 107, 3) := by decide +kernel
theorem dL_law_886 : decode cL_law 886 = .ok (.iload 6, 2) := by decide +kernel
theorem dL_law_888 : decode cL_law 888 = .ok (.if_icmp .eq 5, 3) := by decide +kernel
theorem dL_law_891 : decode cL_law 891 = .ok (.iconst 0, 1) := by decide +kernel
theorem dL_law_892 : decode cL_law 892 = .ok (.ireturn, 1) := by decide +kernel
theorem dL_law_893 : decode cL_law 893 = .ok (.iload 6, 2) := by decide +kernel
theorem dL_law_895 : decode cL_law 895 = .ok (.ifCond .ne 15, 3) := by decide +kernel
theorem dL_law_898 : decode cL_law 898 = .ok (.aload_n 3, 1) := by decide +kernel
theorem dL_law_899 : decode cL_law 899 = .ok (.iconst 0, 1) := by decide +kernel
theorem dL_law_900 : decode cL_law 900 = .ok (.laload, 1) := by decide +kernel
theorem dL_law_901 : decode cL_law 901 = .ok (.iload 7, 2) := by decide +kernel
theorem dL_law_903 : decode cL_law 903 = .ok (.i2l, 1) := by decide +kernel
theorem dL_law_904 : decode cL_law 904 = .ok (.lcmp, 1) := by decide +kernel
theorem dL_law_905 : decode cL_law 905 = .ok (.ifCond .eq 5, 3) := by decide +kernel
theorem dL_law_908 : decode cL_law 908 = .ok (.iconst 0, 1) := by decide +kernel
theorem dL_law_909 : decode cL_law 909 = .ok (.ireturn, 1) := by decide +kernel
theorem dL_law_910 : decode cL_law 910 = .ok (.goto 989, 3) := by decide +kernel
theorem dL_law_913 : decode cL_law 913 = .ok (.aload_n 1, 1) := by decide +kernel
theorem dL_law_914 : decode cL_law 914 = .ok (.aload_n 0, 1) := by decide +kernel
theorem dL_law_915 : decode cL_law 915 = .ok (.iload 5, 2) := by decide +kernel
theorem dL_law_917 : decode cL_law 917 = .ok (.iconst 1, 1) := by decide +kernel
theorem dL_law_918 : decode cL_law 918 = .ok (.iadd, 1) := by decide +kernel
theorem dL_law_919 : decode cL_law 919 = .ok (.iaload, 1) := by decide +kernel
theorem dL_law_920 : decode cL_law 920 = .ok (.aload_n 3, 1) := by decide +kernel
theorem dL_law_921 : decode cL_law 921 = .ok (.invokestatic 144, 3) := by decide +kernel
theorem dL_law_924 : decode cL_law 924 = .ok (.istore 6, 2) := by decide +kernel
theorem dL_law_926 : decode cL_law 926 = .ok (.aload_n 2, 1) := by decide +kernel
theorem dL_law_927 : decode cL_law 927 = .ok (.aload_n 0, 1) := by decide +kernel
theorem dL_law_928 : decode cL_law 928 = .ok (.iload 5, 2) := by decide +kernel
theorem dL_law_930 : decode cL_law 930 = .ok (.iconst 1, 1) := by decide +kernel
theorem dL_law_931 : decode cL_law 931 = .ok (.iadd, 1) := by decide +kernel
theorem dL_law_932 : decode cL_law 932 = .ok (.iaload, 1) := by decide +kernel
theorem dL_law_933 : decode cL_law 933 = .ok (.invokevirtual 146, 3) := by decide +kernel
theorem dL_law_936 : decode cL_law 936 = .ok (.istore 7, 2) := by decide +kernel
theorem dL_law_938 : decode cL_law 938 = .ok (.aload_n 2, 1) := by decide +kernel
theorem dL_law_939 : decode cL_law 939 = .ok (.invokevirtual 107, 3) := by decide +kernel
theorem dL_law_942 : decode cL_law 942 = .ok (.iload 6, 2) := by decide +kernel
theorem dL_law_944 : decode cL_law 944 = .ok (.if_icmp .eq 5, 3) := by decide +kernel
theorem dL_law_947 : decode cL_law 947 = .ok (.iconst 0, 1) := by decide +kernel
theorem dL_law_948 : decode cL_law 948 = .ok (.ireturn, 1) := by decide +kernel
theorem dL_law_949 : decode cL_law 949 = .ok (.iload 6, 2) := by decide +kernel
theorem dL_law_951 : decode cL_law 951 = .ok (.ifCond .ne 22, 3) := by decide +kernel
theorem dL_law_954 : decode cL_law 954 = .ok (.aload_n 3, 1) := by decide +kernel
theorem dL_law_955 : decode cL_law 955 = .ok (.iconst 0, 1) := by decide +kernel
theorem dL_law_956 : decode cL_law 956 = .ok (.laload, 1) := by decide +kernel
theorem dL_law_957 : decode cL_law 957 = .ok (.iload 7, 2) := by decide +kernel
theorem dL_law_959 : decode cL_law 959 = .ok (.ifCond .eq 7, 3) := by decide +kernel
theorem dL_law_962 : decode cL_law 962 = .ok (.lconst 1, 1) := by decide +kernel
theorem dL_law_963 : decode cL_law 963 = .ok (.goto 4, 3) := by decide +kernel
theorem dL_law_966 : decode cL_law 966 = .ok (.lconst 0, 1) := by decide +kernel
theorem dL_law_967 : decode cL_law 967 = .ok (.lcmp, 1) := by decide +kernel
theorem dL_law_968 : decode cL_law 968 = .ok (.ifCond .eq 5, 3) := by decide +kernel
theorem dL_law_971 : decode cL_law 971 = .ok (.iconst 0, 1) := by decide +kernel
theorem dL_law_972 : decode cL_law 972 = .ok (.ireturn, 1) := by decide +kernel
theorem dL_law_973 : decode cL_law 973 = .ok (.goto 926, 3) := by decide +kernel
theorem dL_law_976 : decode cL_law 976 = .ok (.aload_n 1, 1) := by decide +kernel
theorem dL_law_977 : decode cL_law 977 = .ok (.aload_n 0, 1) := by decide +kernel
theorem dL_law_978 : decode cL_law 978 = .ok (.iload 5, 2) := by decide +kernel
theorem dL_law_980 : decode cL_law 980 = .ok (.iconst 1, 1) := by decide +kernel
theorem dL_law_981 : decode cL_law 981 = .ok (.iadd, 1) := by decide +kernel
theorem dL_law_982 : decode cL_law 982 = .ok (.iaload, 1) := by decide +kernel
theorem dL_law_983 : decode cL_law 983 = .ok (.aload_n 3, 1) := by decide +kernel
theorem dL_law_984 : decode cL_law 984 = .ok (.invokestatic 147, 3) := by decide +kernel
theorem dL_law_987 : decode cL_law 987 = .ok (.istore 6, 2) := by decide +kernel
theorem dL_law_989 : decode cL_law 989 = .ok (.aload_n 2, 1) := by decide +kernel
theorem dL_law_990 : decode cL_law 990 = .ok (.aload_n 0, 1) := by decide +kernel
theorem dL_law_991 : decode cL_law 991 = .ok (.iload 5, 2) := by decide +kernel
theorem dL_law_993 : decode cL_law 993 = .ok (.iconst 1, 1) := by decide +kernel
theorem dL_law_994 : decode cL_law 994 = .ok (.iadd, 1) := by decide +kernel
theorem dL_law_995 : decode cL_law 995 = .ok (.iaload, 1) := by decide +kernel
theorem dL_law_996 : decode cL_law 996 = .ok (.invokevirtual 149, 3) := by decide +kernel
theorem dL_law_999 : decode cL_law 999 = .ok (.istore 7, 2) := by decide +kernel
theorem dL_law_1001 : decode cL_law 1001 = .ok (.aload_n 2, 1) := by decide +kernel
theorem dL_law_1002 : decode cL_law 1002 = .ok (.invokevirtual 107, 3) := by decide +kernel
theorem dL_law_1005 : decode cL_law 1005 = .ok (.iload 6, 2) := by decide +kernel
theorem dL_law_1007 : decode cL_law 1007 = .ok (.if_icmp .eq 5, 3) := by decide +kernel
theorem dL_law_1010 : decode cL_law 1010 = .ok (.iconst 0, 1) := by decide +kernel
theorem dL_law_1011 : decode cL_law 1011 = .ok (.ireturn, 1) := by decide +kernel
theorem dL_law_1012 : decode cL_law 1012 = .ok (.iload 6, 2) := by decide +kernel
theorem dL_law_1014 : decode cL_law 1014 = .ok (.ifCond .ne 22, 3) := by decide +kernel
theorem dL_law_1017 : decode cL_law 1017 = .ok (.aload_n 3, 1) := by decide +kernel
theorem dL_law_1018 : decode cL_law 1018 = .ok (.iconst 0, 1) := by decide +kernel
theorem dL_law_1019 : decode cL_law 1019 = .ok (.laload, 1) := by decide +kernel
theorem dL_law_1020 : decode cL_law 1020 = .ok (.iload 7, 2) := by decide +kernel
theorem dL_law_1022 : decode cL_law 1022 = .ok (.ifCond .eq 7, 3) := by decide +kernel
theorem dL_law_1025 : decode cL_law 1025 = .ok (.lconst 1, 1) := by decide +kernel
theorem dL_law_1026 : decode cL_law 1026 = .ok (.goto 4, 3) := by decide +kernel
theorem dL_law_1029 : decode cL_law 1029 = .ok (.lconst 0, 1) := by decide +kernel
theorem dL_law_1030 : decode cL_law 1030 = .ok (.lcmp, 1) := by decide +kernel
theorem dL_law_1031 : decode cL_law 1031 = .ok (.ifCond .eq 5, 3) := by decide +kernel
theorem dL_law_1034 : decode cL_law 1034 = .ok (.iconst 0, 1) := by decide +kernel
theorem dL_law_1035 : decode cL_law 1035 = .ok (.ireturn, 1) := by decide +kernel
theorem dL_law_1036 : decode cL_law 1036 = .ok (.goto 863, 3) := by decide +kernel
theorem dL_law_1039 : decode cL_law 1039 = .ok (.aload_n 1, 1) := by decide +kernel
theorem dL_law_1040 : decode cL_law 1040 = .ok (.aload_n 0, 1) := by decide +kernel
theorem dL_law_1041 : decode cL_law 1041 = .ok (.iload 5, 2) := by decide +kernel
theorem dL_law_1043 : decode cL_law 1043 = .ok (.iconst 1, 1) := by decide +kernel
theorem dL_law_1044 : decode cL_law 1044 = .ok (.iadd, 1) := by decide +kernel
theorem dL_law_1045 : decode cL_law 1045 = .ok (.iaload, 1) := by decide +kernel
theorem dL_law_1046 : decode cL_law 1046 = .ok (.aload_n 0, 1) := by decide +kernel
theorem dL_law_1047 : decode cL_law 1047 = .ok (.iload 5, 2) := by decide +kernel
theorem dL_law_1049 : decode cL_law 1049 = .ok (.iconst 2, 1) := by decide +kernel
theorem dL_law_1050 : decode cL_law 1050 = .ok (.iadd, 1) := by decide +kernel
theorem dL_law_1051 : decode cL_law 1051 = .ok (.iaload, 1) := by decide +kernel
theorem dL_law_1052 : decode cL_law 1052 = .ok (.aload_n 3, 1) := by decide +kernel
theorem dL_law_1053 : decode cL_law 1053 = .ok (.invokestatic 150, 3) := by decide +kernel
theorem dL_law_1056 : decode cL_law 1056 = .ok (.istore 6, 2) := by decide +kernel
theorem dL_law_1058 : decode cL_law 1058 = .ok (.aload_n 2, 1) := by decide +kernel
theorem dL_law_1059 : decode cL_law 1059 = .ok (.aload_n 0, 1) := by decide +kernel
theorem dL_law_1060 : decode cL_law 1060 = .ok (.iload 5, 2) := by decide +kernel
theorem dL_law_1062 : decode cL_law 1062 = .ok (.iconst 1, 1) := by decide +kernel
theorem dL_law_1063 : decode cL_law 1063 = .ok (.iadd, 1) := by decide +kernel
theorem dL_law_1064 : decode cL_law 1064 = .ok (.iaload, 1) := by decide +kernel
theorem dL_law_1065 : decode cL_law 1065 = .ok (.aload_n 0, 1) := by decide +kernel
theorem dL_law_1066 : decode cL_law 1066 = .ok (.iload 5, 2) := by decide +kernel
theorem dL_law_1068 : decode cL_law 1068 = .ok (.iconst 2, 1) := by decide +kernel
theorem dL_law_1069 : decode cL_law 1069 = .ok (.iadd, 1) := by decide +kernel
theorem dL_law_1070 : decode cL_law 1070 = .ok (.iaload, 1) := by decide +kernel
theorem dL_law_1071 : decode cL_law 1071 = .ok (.invokevirtual 152, 3) := by decide +kernel
theorem dL_law_1074 : decode cL_law 1074 = .ok (.istore 7, 2) := by decide +kernel
theorem dL_law_1076 : decode cL_law 1076 = .ok (.aload_n 2, 1) := by decide +kernel
theorem dL_law_1077 : decode cL_law 1077 = .ok (.invokevirtual 107, 3) := by decide +kernel
theorem dL_law_1080 : decode cL_law 1080 = .ok (.iload 6, 2) := by decide +kernel
theorem dL_law_1082 : decode cL_law 1082 = .ok (.if_icmp .eq 5, 3) := by decide +kernel
theorem dL_law_1085 : decode cL_law 1085 = .ok (.iconst 0, 1) := by decide +kernel
theorem dL_law_1086 : decode cL_law 1086 = .ok (.ireturn, 1) := by decide +kernel
theorem dL_law_1087 : decode cL_law 1087 = .ok (.iload 6, 2) := by decide +kernel
theorem dL_law_1089 : decode cL_law 1089 = .ok (.ifCond .ne 15, 3) := by decide +kernel
theorem dL_law_1092 : decode cL_law 1092 = .ok (.aload_n 3, 1) := by decide +kernel
theorem dL_law_1093 : decode cL_law 1093 = .ok (.iconst 0, 1) := by decide +kernel
theorem dL_law_1094 : decode cL_law 1094 = .ok (.laload, 1) := by decide +kernel
theorem dL_law_1095 : decode cL_law 1095 = .ok (.iload 7, 2) := by decide +kernel
theorem dL_law_1097 : decode cL_law 1097 = .ok (.i2l, 1) := by decide +kernel
theorem dL_law_1098 : decode cL_law 1098 = .ok (.lcmp, 1) := by decide +kernel
theorem dL_law_1099 : decode cL_law 1099 = .ok (.ifCond .eq 5, 3) := by decide +kernel
theorem dL_law_1102 : decode cL_law 1102 = .ok (.iconst 0, 1) := by decide +kernel
theorem dL_law_1103 : decode cL_law 1103 = .ok (.ireturn, 1) := by decide +kernel
theorem dL_law_1104 : decode cL_law 1104 = .ok (.goto 795, 3) := by decide +kernel
theorem dL_law_1107 : decode cL_law 1107 = .ok (.aload_n 1, 1) := by decide +kernel
theorem dL_law_1108 : decode cL_law 1108 = .ok (.aload_n 0, 1) := by decide +kernel
theorem dL_law_1109 : decode cL_law 1109 = .ok (.iload 5, 2) := by decide +kernel
theorem dL_law_1111 : decode cL_law 1111 = .ok (.iconst 1, 1) := by decide +kernel
theorem dL_law_1112 : decode cL_law 1112 = .ok (.iadd, 1) := by decide +kernel
theorem dL_law_1113 : decode cL_law 1113 = .ok (.iaload, 1) := by decide +kernel
theorem dL_law_1114 : decode cL_law 1114 = .ok (.aload_n 3, 1) := by decide +kernel
theorem dL_law_1115 : decode cL_law 1115 = .ok (.invokestatic 153, 3) := by decide +kernel
theorem dL_law_1118 : decode cL_law 1118 = .ok (.istore 6, 2) := by decide +kernel
theorem dL_law_1120 : decode cL_law 1120 = .ok (.aload_n 2, 1) := by decide +kernel
theorem dL_law_1121 : decode cL_law 1121 = .ok (.aload_n 0, 1) := by decide +kernel
theorem dL_law_1122 : decode cL_law 1122 = .ok (.iload 5, 2) := by decide +kernel
theorem dL_law_1124 : decode cL_law 1124 = .ok (.iconst 1, 1) := by decide +kernel
theorem dL_law_1125 : decode cL_law 1125 = .ok (.iadd, 1) := by decide +kernel
theorem dL_law_1126 : decode cL_law 1126 = .ok (.iaload, 1) := by decide +kernel
theorem dL_law_1127 : decode cL_law 1127 = .ok (.invokevirtual 155, 3) := by decide +kernel
theorem dL_law_1130 : decode cL_law 1130 = .ok (.istore 7, 2) := by decide +kernel
theorem dL_law_1132 : decode cL_law 1132 = .ok (.aload_n 2, 1) := by decide +kernel
theorem dL_law_1133 : decode cL_law 1133 = .ok (.invokevirtual 107, 3) := by decide +kernel
theorem dL_law_1136 : decode cL_law 1136 = .ok (.iload 6, 2) := by decide +kernel
theorem dL_law_1138 : decode cL_law 1138 = .ok (.if_icmp .eq 5, 3) := by decide +kernel
theorem dL_law_1141 : decode cL_law 1141 = .ok (.iconst 0, 1) := by decide +kernel
theorem dL_law_1142 : decode cL_law 1142 = .ok (.ireturn, 1) := by decide +kernel
theorem dL_law_1143 : decode cL_law 1143 = .ok (.iload 6, 2) := by decide +kernel
theorem dL_law_1145 : decode cL_law 1145 = .ok (.ifCond .ne 15, 3) := by decide +kernel
theorem dL_law_1148 : decode cL_law 1148 = .ok (.aload_n 3, 1) := by decide +kernel
theorem dL_law_1149 : decode cL_law 1149 = .ok (.iconst 0, 1) := by decide +kernel
theorem dL_law_1150 : decode cL_law 1150 = .ok (.laload, 1) := by decide +kernel
theorem dL_law_1151 : decode cL_law 1151 = .ok (.iload 7, 2) := by decide +kernel
theorem dL_law_1153 : decode cL_law 1153 = .ok (.i2l, 1) := by decide +kernel
theorem dL_law_1154 : decode cL_law 1154 = .ok (.lcmp, 1) := by decide +kernel
theorem dL_law_1155 : decode cL_law 1155 = .ok (.ifCond .eq 5, 3) := by decide +kernel
theorem dL_law_1158 : decode cL_law 1158 = .ok (.iconst 0, 1) := by decide +kernel
theorem dL_law_1159 : decode cL_law 1159 = .ok (.ireturn, 1) := by decide +kernel
theorem dL_law_1160 : decode cL_law 1160 = .ok (.goto 739, 3) := by decide +kernel
theorem dL_law_1163 : decode cL_law 1163 = .ok (.aload_n 1, 1) := by decide +kernel
theorem dL_law_1164 : decode cL_law 1164 = .ok (.invokevirtual 156, 3) := by decide +kernel
theorem dL_law_1167 : decode cL_law 1167 = .ok (.aload_n 2, 1) := by decide +kernel
theorem dL_law_1168 : decode cL_law 1168 = .ok (.invokevirtual 159, 3) := by decide +kernel
theorem dL_law_1171 : decode cL_law 1171 = .ok (.if_icmp .eq 728, 3) := by decide +kernel
theorem dL_law_1174 : decode cL_law 1174 = .ok (.iconst 0, 1) := by decide +kernel
theorem dL_law_1175 : decode cL_law 1175 = .ok (.ireturn, 1) := by decide +kernel
theorem dL_law_1176 : decode cL_law 1176 = .ok (.aload_n 1, 1) := by decide +kernel
theorem dL_law_1177 : decode cL_law 1177 = .ok (.aload_n 0, 1) := by decide +kernel
theorem dL_law_1178 : decode cL_law 1178 = .ok (.iload 5, 2) := by decide +kernel
theorem dL_law_1180 : decode cL_law 1180 = .ok (.iconst 1, 1) := by decide +kernel
theorem dL_law_1181 : decode cL_law 1181 = .ok (.iadd, 1) := by decide +kernel
theorem dL_law_1182 : decode cL_law 1182 = .ok (.iaload, 1) := by decide +kernel
theorem dL_law_1183 : decode cL_law 1183 = .ok (.aload_n 0, 1) := by decide +kernel
theorem dL_law_1184 : decode cL_law 1184 = .ok (.iload 5, 2) := by decide +kernel
theorem dL_law_1186 : decode cL_law 1186 = .ok (.iconst 2, 1) := by decide +kernel
theorem dL_law_1187 : decode cL_law 1187 = .ok (.iadd, 1) := by decide +kernel
theorem dL_law_1188 : decode cL_law 1188 = .ok (.iaload, 1) := by decide +kernel
theorem dL_law_1189 : decode cL_law 1189 = .ok (.aload_n 3, 1) := by decide +kernel
theorem dL_law_1190 : decode cL_law 1190 = .ok (.invokestatic 160, 3) := by decide +kernel
theorem dL_law_1193 : decode cL_law 1193 = .ok (.istore 6, 2) := by decide +kernel
theorem dL_law_1195 : decode cL_law 1195 = .ok (.aload_n 2, 1) := by decide +kernel
theorem dL_law_1196 : decode cL_law 1196 = .ok (.aload_n 0, 1) := by decide +kernel
theorem dL_law_1197 : decode cL_law 1197 = .ok (.iload 5, 2) := by decide +kernel
theorem dL_law_1199 : decode cL_law 1199 = .ok (.iconst 1, 1) := by decide +kernel
theorem dL_law_1200 : decode cL_law 1200 = .ok (.iadd, 1) := by decide +kernel
theorem dL_law_1201 : decode cL_law 1201 = .ok (.iaload, 1) := by decide +kernel
theorem dL_law_1202 : decode cL_law 1202 = .ok (.aload_n 0, 1) := by decide +kernel
theorem dL_law_1203 : decode cL_law 1203 = .ok (.iload 5, 2) := by decide +kernel
theorem dL_law_1205 : decode cL_law 1205 = .ok (.iconst 2, 1) := by decide +kernel
theorem dL_law_1206 : decode cL_law 1206 = .ok (.iadd, 1) := by decide +kernel
theorem dL_law_1207 : decode cL_law 1207 = .ok (.iaload, 1) := by decide +kernel
theorem dL_law_1208 : decode cL_law 1208 = .ok (.invokevirtual 162, 3) := by decide +kernel
theorem dL_law_1211 : decode cL_law 1211 = .ok (.istore 7, 2) := by decide +kernel
theorem dL_law_1213 : decode cL_law 1213 = .ok (.aload_n 2, 1) := by decide +kernel
theorem dL_law_1214 : decode cL_law 1214 = .ok (.invokevirtual 107, 3) := by decide +kernel
theorem dL_law_1217 : decode cL_law 1217 = .ok (.iload 6, 2) := by decide +kernel
theorem dL_law_1219 : decode cL_law 1219 = .ok (.if_icmp .eq 5, 3) := by decide +kernel
theorem dL_law_1222 : decode cL_law 1222 = .ok (.iconst 0, 1) := by decide +kernel
theorem dL_law_1223 : decode cL_law 1223 = .ok (.ireturn, 1) := by decide +kernel
theorem dL_law_1224 : decode cL_law 1224 = .ok (.iload 6, 2) := by decide +kernel
theorem dL_law_1226 : decode cL_law 1226 = .ok (.ifCond .ne 15, 3) := by decide +kernel
theorem dL_law_1229 : decode cL_law 1229 = .ok (.aload_n 3, 1) := by decide +kernel
theorem dL_law_1230 : decode cL_law 1230 = .ok (.iconst 0, 1) := by decide +kernel
theorem dL_law_1231 : decode cL_law 1231 = .ok (.laload, 1) := by decide +kernel
theorem dL_law_1232 : decode cL_law 1232 = .ok (.iload 7, 2) := by decide +kernel
theorem dL_law_1234 : decode cL_law 1234 = .ok (.i2l, 1) := by decide +kernel
theorem dL_law_1235 : decode cL_law 1235 = .ok (.lcmp, 1) := by decide +kernel
theorem dL_law_1236 : decode cL_law 1236 = .ok (.ifCond .eq 5, 3) := by decide +kernel
theorem dL_law_1239 : decode cL_law 1239 = .ok (.iconst 0, 1) := by decide +kernel
theorem dL_law_1240 : decode cL_law 1240 = .ok (.ireturn, 1) := by decide +kernel
theorem dL_law_1241 : decode cL_law 1241 = .ok (.goto 658, 3) := by decide +kernel
theorem dL_law_1244 : decode cL_law 1244 = .ok (.aload_n 1, 1) := by decide +kernel
theorem dL_law_1245 : decode cL_law 1245 = .ok (.aload_n 0, 1) := by decide +kernel
theorem dL_law_1246 : decode cL_law 1246 = .ok (.iload 5, 2) := by decide +kernel
theorem dL_law_1248 : decode cL_law 1248 = .ok (.iconst 1, 1) := by decide +kernel
theorem dL_law_1249 : decode cL_law 1249 = .ok (.iadd, 1) := by decide +kernel
theorem dL_law_1250 : decode cL_law 1250 = .ok (.iaload, 1) := by decide +kernel
theorem dL_law_1251 : decode cL_law 1251 = .ok (.aload_n 0, 1) := by decide +kernel
theorem dL_law_1252 : decode cL_law 1252 = .ok (.iload 5, 2) := by decide +kernel
theorem dL_law_1254 : decode cL_law 1254 = .ok (.iconst 2, 1) := by decide +kernel
theorem dL_law_1255 : decode cL_law 1255 = .ok (.iadd, 1) := by decide +kernel
theorem dL_law_1256 : decode cL_law 1256 = .ok (.iaload, 1) := by decide +kernel
theorem dL_law_1257 : decode cL_law 1257 = .ok (.ifCond .eq 7, 3) := by decide +kernel
theorem dL_law_1260 : decode cL_law 1260 = .ok (.iconst 1, 1) := by decide +kernel
theorem dL_law_1261 : decode cL_law 1261 = .ok (.goto 4, 3) := by decide +kernel
theorem dL_law_1264 : decode cL_law 1264 = .ok (.iconst 0, 1) := by decide +kernel
theorem dL_law_1265 : decode cL_law 1265 = .ok (.aload 4, 2) := by decide +kernel
theorem dL_law_1267 : decode cL_law 1267 = .ok (.invokestatic 163, 3) := by decide +kernel
theorem dL_law_1270 : decode cL_law 1270 = .ok (.istore 6, 2) := by decide +kernel
theorem dL_law_1272 : decode cL_law 1272 = .ok (.aload_n 2, 1) := by decide +kernel
theorem dL_law_1273 : decode cL_law 1273 = .ok (.aload_n 0, 1) := by decide +kernel
theorem dL_law_1274 : decode cL_law 1274 = .ok (.iload 5, 2) := by decide +kernel
theorem dL_law_1276 : decode cL_law 1276 = .ok (.iconst 1, 1) := by decide +kernel
theorem dL_law_1277 : decode cL_law 1277 = .ok (.iadd, 1) := by decide +kernel
theorem dL_law_1278 : decode cL_law 1278 = .ok (.iaload, 1) := by decide +kernel
theorem dL_law_1279 : decode cL_law 1279 = .ok (.aload_n 0, 1) := by decide +kernel
theorem dL_law_1280 : decode cL_law 1280 = .ok (.iload 5, 2) := by decide +kernel
theorem dL_law_1282 : decode cL_law 1282 = .ok (.iconst 2, 1) := by decide +kernel
theorem dL_law_1283 : decode cL_law 1283 = .ok (.iadd, 1) := by decide +kernel
theorem dL_law_1284 : decode cL_law 1284 = .ok (.iaload, 1) := by decide +kernel
theorem dL_law_1285 : decode cL_law 1285 = .ok (.ifCond .eq 7, 3) := by decide +kernel
theorem dL_law_1288 : decode cL_law 1288 = .ok (.iconst 1, 1) := by decide +kernel
theorem dL_law_1289 : decode cL_law 1289 = .ok (.goto 4, 3) := by decide +kernel
theorem dL_law_1292 : decode cL_law 1292 = .ok (.iconst 0, 1) := by decide +kernel
theorem dL_law_1293 : decode cL_law 1293 = .ok (.invokevirtual 166, 3) := by decide +kernel
theorem dL_law_1296 : decode cL_law 1296 = .ok (.dstore 7, 2) := by decide +kernel
theorem dL_law_1298 : decode cL_law 1298 = .ok (.aload_n 2, 1) := by decide +kernel
theorem dL_law_1299 : decode cL_law 1299 = .ok (.invokevirtual 107, 3) := by decide +kernel
theorem dL_law_1302 : decode cL_law 1302 = .ok (.iload 6, 2) := by decide +kernel
theorem dL_law_1304 : decode cL_law 1304 = .ok (.if_icmp .eq 5, 3) := by decide +kernel
theorem dL_law_1307 : decode cL_law 1307 = .ok (.iconst 0, 1) := by decide +kernel
theorem dL_law_1308 : decode cL_law 1308 = .ok (.ireturn, 1) := by decide +kernel
theorem dL_law_1309 : decode cL_law 1309 = .ok (.iload 6, 2) := by decide +kernel
theorem dL_law_1311 : decode cL_law 1311 = .ok (.ifCond .ne 35, 3) := by decide +kernel
theorem dL_law_1314 : decode cL_law 1314 = .ok (.aload 4, 2) := by decide +kernel
theorem dL_law_1316 : decode cL_law 1316 = .ok (.iconst 0, 1) := by decide +kernel
theorem dL_law_1317 : decode cL_law 1317 = .ok (.daload, 1) := by decide +kernel
theorem dL_law_1318 : decode cL_law 1318 = .ok (.dload 7, 2) := by decide +kernel
theorem dL_law_1320 : decode cL_law 1320 = .ok (.dcmp .l, 1) := by decide +kernel
theorem dL_law_1321 : decode cL_law 1321 = .ok (.ifCond .eq 25, 3) := by decide +kernel
theorem dL_law_1324 : decode cL_law 1324 = .ok (.aload 4, 2) := by decide +kernel
theorem dL_law_1326 : decode cL_law 1326 = .ok (.iconst 0, 1) := by decide +kernel
theorem dL_law_1327 : decode cL_law 1327 = .ok (.daload, 1) := by decide +kernel
theorem dL_law_1328 : decode cL_law 1328 = .ok (.aload 4, 2) := by decide +kernel
theorem dL_law_1330 : decode cL_law 1330 = .ok (.iconst 0, 1) := by decide +kernel
theorem dL_law_1331 : decode cL_law 1331 = .ok (.daload, 1) := by decide +kernel
theorem dL_law_1332 : decode cL_law 1332 = .ok (.dcmp .l, 1) := by decide +kernel
theorem dL_law_1333 : decode cL_law 1333 = .ok (.ifCond .eq 11, 3) := by decide +kernel
theorem dL_law_1336 : decode cL_law 1336 = .ok (.dload 7, 2) := by decide +kernel
theorem dL_law_1338 : decode cL_law 1338 = .ok (.dload 7, 2) := by decide +kernel
theorem dL_law_1340 : decode cL_law 1340 = .ok (.dcmp .l, 1) := by decide +kernel
theorem dL_law_1341 : decode cL_law 1341 = .ok (.ifCond .ne 5, 3) := by decide +kernel
theorem dL_law_1344 : decode cL_law 1344 = .ok (.iconst 0, 1) := by decide +kernel
theorem dL_law_1345 : decode cL_law 1345 = .ok (.ireturn, 1) := by decide +kernel
theorem dL_law_1346 : decode cL_law 1346 = .ok (.goto 553, 3) := by decide +kernel
theorem dL_law_1349 : decode cL_law 1349 = .ok (.aload_n 1, 1) := by decide +kernel
theorem dL_law_1350 : decode cL_law 1350 = .ok (.aload_n 0, 1) := by decide +kernel
theorem dL_law_1351 : decode cL_law 1351 = .ok (.iload 5, 2) := by decide +kernel
theorem dL_law_1353 : decode cL_law 1353 = .ok (.iconst 1, 1) := by decide +kernel
theorem dL_law_1354 : decode cL_law 1354 = .ok (.iadd, 1) := by decide +kernel
theorem dL_law_1355 : decode cL_law 1355 = .ok (.iaload, 1) := by decide +kernel
theorem dL_law_1356 : decode cL_law 1356 = .ok (.aload_n 0, 1) := by decide +kernel
theorem dL_law_1357 : decode cL_law 1357 = .ok (.iload 5, 2) := by decide +kernel
theorem dL_law_1359 : decode cL_law 1359 = .ok (.iconst 2, 1) := by decide +kernel
theorem dL_law_1360 : decode cL_law 1360 = .ok (.iadd, 1) := by decide +kernel
theorem dL_law_1361 : decode cL_law 1361 = .ok (.iaload, 1) := by decide +kernel
theorem dL_law_1362 : decode cL_law 1362 = .ok (.ifCond .eq 7, 3) := by decide +kernel
theorem dL_law_1365 : decode cL_law 1365 = .ok (.iconst 1, 1) := by decide +kernel
theorem dL_law_1366 : decode cL_law 1366 = .ok (.goto 4, 3) := by decide +kernel
theorem dL_law_1369 : decode cL_law 1369 = .ok (.iconst 0, 1) := by decide +kernel
theorem dL_law_1370 : decode cL_law 1370 = .ok (.aload_n 3, 1) := by decide +kernel
theorem dL_law_1371 : decode cL_law 1371 = .ok (.invokestatic 167, 3) := by decide +kernel
theorem dL_law_1374 : decode cL_law 1374 = .ok (.istore 6, 2) := by decide +kernel
theorem dL_law_1376 : decode cL_law 1376 = .ok (.aload_n 2, 1) := by decide +kernel
theorem dL_law_1377 : decode cL_law 1377 = .ok (.aload_n 0, 1) := by decide +kernel
theorem dL_law_1378 : decode cL_law 1378 = .ok (.iload 5, 2) := by decide +kernel
theorem dL_law_1380 : decode cL_law 1380 = .ok (.iconst 1, 1) := by decide +kernel
theorem dL_law_1381 : decode cL_law 1381 = .ok (.iadd, 1) := by decide +kernel
theorem dL_law_1382 : decode cL_law 1382 = .ok (.iaload, 1) := by decide +kernel
theorem dL_law_1383 : decode cL_law 1383 = .ok (.aload_n 0, 1) := by decide +kernel
theorem dL_law_1384 : decode cL_law 1384 = .ok (.iload 5, 2) := by decide +kernel
theorem dL_law_1386 : decode cL_law 1386 = .ok (.iconst 2, 1) := by decide +kernel
theorem dL_law_1387 : decode cL_law 1387 = .ok (.iadd, 1) := by decide +kernel
theorem dL_law_1388 : decode cL_law 1388 = .ok (.iaload, 1) := by decide +kernel
theorem dL_law_1389 : decode cL_law 1389 = .ok (.ifCond .eq 7, 3) := by decide +kernel
theorem dL_law_1392 : decode cL_law 1392 = .ok (.iconst 1, 1) := by decide +kernel
theorem dL_law_1393 : decode cL_law 1393 = .ok (.goto 4, 3) := by decide +kernel
theorem dL_law_1396 : decode cL_law 1396 = .ok (.iconst 0, 1) := by decide +kernel
theorem dL_law_1397 : decode cL_law 1397 = .ok (.invokevirtual 170, 3) := by decide +kernel
theorem dL_law_1400 : decode cL_law 1400 = .ok (.istore 7, 2) := by decide +kernel
theorem dL_law_1402 : decode cL_law 1402 = .ok (.aload_n 2, 1) := by decide +kernel
theorem dL_law_1403 : decode cL_law 1403 = .ok (.invokevirtual 107, 3) := by decide +kernel
theorem dL_law_1406 : decode cL_law 1406 = .ok (.iload 6, 2) := by decide +kernel
theorem dL_law_1408 : decode cL_law 1408 = .ok (.if_icmp .eq 5, 3) := by decide +kernel
theorem dL_law_1411 : decode cL_law 1411 = .ok (.iconst 0, 1) := by decide +kernel
theorem dL_law_1412 : decode cL_law 1412 = .ok (.ireturn, 1) := by decide +kernel
theorem dL_law_1413 : decode cL_law 1413 = .ok (.iload 6, 2) := by decide +kernel
theorem dL_law_1415 : decode cL_law 1415 = .ok (.ifCond .ne 15, 3) := by decide +kernel
theorem dL_law_1418 : decode cL_law 1418 = .ok (.aload_n 3, 1) := by decide +kernel
theorem dL_law_1419 : decode cL_law 1419 = .ok (.iconst 0, 1) := by decide +kernel
theorem dL_law_1420 : decode cL_law 1420 = .ok (.laload, 1) := by decide +kernel
theorem dL_law_1421 : decode cL_law 1421 = .ok (.iload 7, 2) := by decide +kernel
theorem dL_law_1423 : decode cL_law 1423 = .ok (.i2l, 1) := by decide +kernel
theorem dL_law_1424 : decode cL_law 1424 = .ok (.lcmp, 1) := by decide +kernel
theorem dL_law_1425 : decode cL_law 1425 = .ok (.ifCond .eq 5, 3) := by decide +kernel
theorem dL_law_1428 : decode cL_law 1428 = .ok (.iconst 0, 1) := by decide +kernel
theorem dL_law_1429 : decode cL_law 1429 = .ok (.ireturn, 1) := by decide +kernel
theorem dL_law_1430 : decode cL_law 1430 = .ok (.goto 469, 3) := by decide +kernel
theorem dL_law_1433 : decode cL_law 1433 = .ok (.aload_n 1, 1) := by decide +kernel
theorem dL_law_1434 : decode cL_law 1434 = .ok (.aload_n 0, 1) := by decide +kernel
theorem dL_law_1435 : decode cL_law 1435 = .ok (.iload 5, 2) := by decide +kernel
theorem dL_law_1437 : decode cL_law 1437 = .ok (.iconst 1, 1) := by decide +kernel
theorem dL_law_1438 : decode cL_law 1438 = .ok (.iadd, 1) := by decide +kernel
theorem dL_law_1439 : decode cL_law 1439 = .ok (.iaload, 1) := by decide +kernel
theorem dL_law_1440 : decode cL_law 1440 = .ok (.aload_n 0, 1) := by decide +kernel
theorem dL_law_1441 : decode cL_law 1441 = .ok (.iload 5, 2) := by decide +kernel
theorem dL_law_1443 : decode cL_law 1443 = .ok (.iconst 2, 1) := by decide +kernel
theorem dL_law_1444 : decode cL_law 1444 = .ok (.iadd, 1) := by decide +kernel
theorem dL_law_1445 : decode cL_law 1445 = .ok (.iaload, 1) := by decide +kernel
theorem dL_law_1446 : decode cL_law 1446 = .ok (.aload_n 3, 1) := by decide +kernel
theorem dL_law_1447 : decode cL_law 1447 = .ok (.invokestatic 171, 3) := by decide +kernel
theorem dL_law_1450 : decode cL_law 1450 = .ok (.istore 6, 2) := by decide +kernel
theorem dL_law_1452 : decode cL_law 1452 = .ok (.aload_n 2, 1) := by decide +kernel
theorem dL_law_1453 : decode cL_law 1453 = .ok (.aload_n 0, 1) := by decide +kernel
theorem dL_law_1454 : decode cL_law 1454 = .ok (.iload 5, 2) := by decide +kernel
theorem dL_law_1456 : decode cL_law 1456 = .ok (.iconst 1, 1) := by decide +kernel
theorem dL_law_1457 : decode cL_law 1457 = .ok (.iadd, 1) := by decide +kernel
theorem dL_law_1458 : decode cL_law 1458 = .ok (.iaload, 1) := by decide +kernel
theorem dL_law_1459 : decode cL_law 1459 = .ok (.aload_n 0, 1) := by decide +kernel
theorem dL_law_1460 : decode cL_law 1460 = .ok (.iload 5, 2) := by decide +kernel
theorem dL_law_1462 : decode cL_law 1462 = .ok (.iconst 2, 1) := by decide +kernel
theorem dL_law_1463 : decode cL_law 1463 = .ok (.iadd, 1) := by decide +kernel
theorem dL_law_1464 : decode cL_law 1464 = .ok (.iaload, 1) := by decide +kernel
theorem dL_law_1465 : decode cL_law 1465 = .ok (.invokevirtual 173, 3) := by decide +kernel
theorem dL_law_1468 : decode cL_law 1468 = .ok (.istore 7, 2) := by decide +kernel
theorem dL_law_1470 : decode cL_law 1470 = .ok (.aload_n 2, 1) := by decide +kernel
theorem dL_law_1471 : decode cL_law 1471 = .ok (.invokevirtual 107, 3) := by decide +kernel
theorem dL_law_1474 : decode cL_law 1474 = .ok (.iload 6, 2) := by decide +kernel
theorem dL_law_1476 : decode cL_law 1476 = .ok (.if_icmp .eq 5, 3) := by decide +kernel
theorem dL_law_1479 : decode cL_law 1479 = .ok (.iconst 0, 1) := by decide +kernel
theorem dL_law_1480 : decode cL_law 1480 = .ok (.ireturn, 1) := by decide +kernel
theorem dL_law_1481 : decode cL_law 1481 = .ok (.iload 6, 2) := by decide +kernel
theorem dL_law_1483 : decode cL_law 1483 = .ok (.ifCond .ne 15, 3) := by decide +kernel
theorem dL_law_1486 : decode cL_law 1486 = .ok (.aload_n 3, 1) := by decide +kernel
theorem dL_law_1487 : decode cL_law 1487 = .ok (.iconst 0, 1) := by decide +kernel
theorem dL_law_1488 : decode cL_law 1488 = .ok (.laload, 1) := by decide +kernel
theorem dL_law_1489 : decode cL_law 1489 = .ok (.iload 7, 2) := by decide +kernel
theorem dL_law_1491 : decode cL_law 1491 = .ok (.i2l, 1) := by decide +kernel
theorem dL_law_1492 : decode cL_law 1492 = .ok (.lcmp, 1) := by decide +kernel
theorem dL_law_1493 : decode cL_law 1493 = .ok (.ifCond .eq 5, 3) := by decide +kernel
theorem dL_law_1496 : decode cL_law 1496 = .ok (.iconst 0, 1) := by decide +kernel
theorem dL_law_1497 : decode cL_law 1497 = .ok (.ireturn, 1) := by decide +kernel
theorem dL_law_1498 : decode cL_law 1498 = .ok (.goto 401, 3) := by decide +kernel
theorem dL_law_1501 : decode cL_law 1501 = .ok (.aload_n 1, 1) := by decide +kernel
theorem dL_law_1502 : decode cL_law 1502 = .ok (.aload_n 0, 1) := by decide +kernel
theorem dL_law_1503 : decode cL_law 1503 = .ok (.iload 5, 2) := by decide +kernel
theorem dL_law_1505 : decode cL_law 1505 = .ok (.iconst 1, 1) := by decide +kernel
theorem dL_law_1506 : decode cL_law 1506 = .ok (.iadd, 1) := by decide +kernel
theorem dL_law_1507 : decode cL_law 1507 = .ok (.iaload, 1) := by decide +kernel
theorem dL_law_1508 : decode cL_law 1508 = .ok (.aload_n 3, 1) := by decide +kernel
theorem dL_law_1509 : decode cL_law 1509 = .ok (.invokestatic 174, 3) := by decide +kernel
theorem dL_law_1512 : decode cL_law 1512 = .ok (.istore 6, 2) := by decide +kernel
theorem dL_law_1514 : decode cL_law 1514 = .ok (.aload_n 2, 1) := by decide +kernel
theorem dL_law_1515 : decode cL_law 1515 = .ok (.aload_n 0, 1) := by decide +kernel
theorem dL_law_1516 : decode cL_law 1516 = .ok (.iload 5, 2) := by decide +kernel
theorem dL_law_1518 : decode cL_law 1518 = .ok (.iconst 1, 1) := by decide +kernel
theorem dL_law_1519 : decode cL_law 1519 = .ok (.iadd, 1) := by decide +kernel
theorem dL_law_1520 : decode cL_law 1520 = .ok (.iaload, 1) := by decide +kernel
theorem dL_law_1521 : decode cL_law 1521 = .ok (.invokevirtual 176, 3) := by decide +kernel
theorem dL_law_1524 : decode cL_law 1524 = .ok (.istore 7, 2) := by decide +kernel
theorem dL_law_1526 : decode cL_law 1526 = .ok (.aload_n 2, 1) := by decide +kernel
theorem dL_law_1527 : decode cL_law 1527 = .ok (.invokevirtual 107, 3) := by decide +kernel
theorem dL_law_1530 : decode cL_law 1530 = .ok (.iload 6, 2) := by decide +kernel
theorem dL_law_1532 : decode cL_law 1532 = .ok (.if_icmp .eq 5, 3) := by decide +kernel
theorem dL_law_1535 : decode cL_law 1535 = .ok (.iconst 0, 1) := by decide +kernel
theorem dL_law_1536 : decode cL_law 1536 = .ok (.ireturn, 1) := by decide +kernel
theorem dL_law_1537 : decode cL_law 1537 = .ok (.iload 6, 2) := by decide +kernel
theorem dL_law_1539 : decode cL_law 1539 = .ok (.ifCond .ne 15, 3) := by decide +kernel
theorem dL_law_1542 : decode cL_law 1542 = .ok (.aload_n 3, 1) := by decide +kernel
theorem dL_law_1543 : decode cL_law 1543 = .ok (.iconst 0, 1) := by decide +kernel
theorem dL_law_1544 : decode cL_law 1544 = .ok (.laload, 1) := by decide +kernel
theorem dL_law_1545 : decode cL_law 1545 = .ok (.iload 7, 2) := by decide +kernel
theorem dL_law_1547 : decode cL_law 1547 = .ok (.i2l, 1) := by decide +kernel
theorem dL_law_1548 : decode cL_law 1548 = .ok (.lcmp, 1) := by decide +kernel
theorem dL_law_1549 : decode cL_law 1549 = .ok (.ifCond .eq 5, 3) := by decide +kernel
theorem dL_law_1552 : decode cL_law 1552 = .ok (.iconst 0, 1) := by decide +kernel
theorem dL_law_1553 : decode cL_law 1553 = .ok (.ireturn, 1) := by decide +kernel
theorem dL_law_1554 : decode cL_law 1554 = .ok (.goto 345, 3) := by decide +kernel
theorem dL_law_1557 : decode cL_law 1557 = .ok (.aload_n 1, 1) := by decide +kernel
theorem dL_law_1558 : decode cL_law 1558 = .ok (.aload_n 0, 1) := by decide +kernel
theorem dL_law_1559 : decode cL_law 1559 = .ok (.iload 5, 2) := by decide +kernel
theorem dL_law_1561 : decode cL_law 1561 = .ok (.iconst 1, 1) := by decide +kernel
theorem dL_law_1562 : decode cL_law 1562 = .ok (.iadd, 1) := by decide +kernel
theorem dL_law_1563 : decode cL_law 1563 = .ok (.iaload, 1) := by decide +kernel
theorem dL_law_1564 : decode cL_law 1564 = .ok (.aload_n 0, 1) := by decide +kernel
theorem dL_law_1565 : decode cL_law 1565 = .ok (.iload 5, 2) := by decide +kernel
theorem dL_law_1567 : decode cL_law 1567 = .ok (.iconst 2, 1) := by decide +kernel
theorem dL_law_1568 : decode cL_law 1568 = .ok (.iadd, 1) := by decide +kernel
theorem dL_law_1569 : decode cL_law 1569 = .ok (.iaload, 1) := by decide +kernel
theorem dL_law_1570 : decode cL_law 1570 = .ok (.aload_n 3, 1) := by decide +kernel
theorem dL_law_1571 : decode cL_law 1571 = .ok (.invokestatic 177, 3) := by decide +kernel
theorem dL_law_1574 : decode cL_law 1574 = .ok (.istore 6, 2) := by decide +kernel
theorem dL_law_1576 : decode cL_law 1576 = .ok (.aload_n 2, 1) := by decide +kernel
theorem dL_law_1577 : decode cL_law 1577 = .ok (.aload_n 0, 1) := by decide +kernel
theorem dL_law_1578 : decode cL_law 1578 = .ok (.iload 5, 2) := by decide +kernel
theorem dL_law_1580 : decode cL_law 1580 = .ok (.iconst 1, 1) := by decide +kernel
theorem dL_law_1581 : decode cL_law 1581 = .ok (.iadd, 1) := by decide +kernel
theorem dL_law_1582 : decode cL_law 1582 = .ok (.iaload, 1) := by decide +kernel
theorem dL_law_1583 : decode cL_law 1583 = .ok (.aload_n 0, 1) := by decide +kernel
theorem dL_law_1584 : decode cL_law 1584 = .ok (.iload 5, 2) := by decide +kernel
theorem dL_law_1586 : decode cL_law 1586 = .ok (.iconst 2, 1) := by decide +kernel
theorem dL_law_1587 : decode cL_law 1587 = .ok (.iadd, 1) := by decide +kernel
theorem dL_law_1588 : decode cL_law 1588 = .ok (.iaload, 1) := by decide +kernel
theorem dL_law_1589 : decode cL_law 1589 = .ok (.invokevirtual 179, 3) := by decide +kernel
theorem dL_law_1592 : decode cL_law 1592 = .ok (.istore 7, 2) := by decide +kernel
theorem dL_law_1594 : decode cL_law 1594 = .ok (.aload_n 2, 1) := by decide +kernel
theorem dL_law_1595 : decode cL_law 1595 = .ok (.invokevirtual 107, 3) := by decide +kernel
theorem dL_law_1598 : decode cL_law 1598 = .ok (.iload 6, 2) := by decide +kernel
theorem dL_law_1600 : decode cL_law 1600 = .ok (.if_icmp .eq 5, 3) := by decide +kernel
theorem dL_law_1603 : decode cL_law 1603 = .ok (.iconst 0, 1) := by decide +kernel
theorem dL_law_1604 : decode cL_law 1604 = .ok (.ireturn, 1) := by decide +kernel
theorem dL_law_1605 : decode cL_law 1605 = .ok (.iload 6, 2) := by decide +kernel
theorem dL_law_1607 : decode cL_law 1607 = .ok (.ifCond .ne 15, 3) := by decide +kernel
theorem dL_law_1610 : decode cL_law 1610 = .ok (.aload_n 3, 1) := by decide +kernel
theorem dL_law_1611 : decode cL_law 1611 = .ok (.iconst 0, 1) := by decide +kernel
theorem dL_law_1612 : decode cL_law 1612 = .ok (.laload, 1) := by decide +kernel
theorem dL_law_1613 : decode cL_law 1613 = .ok (.iload 7, 2) := by decide +kernel
theorem dL_law_1615 : decode cL_law 1615 = .ok (.i2l, 1) := by decide +kernel
theorem dL_law_1616 : decode cL_law 1616 = .ok (.lcmp, 1) := by decide +kernel
theorem dL_law_1617 : decode cL_law 1617 = .ok (.ifCond .eq 5, 3) := by decide +kernel
theorem dL_law_1620 : decode cL_law 1620 = .ok (.iconst 0, 1) := by decide +kernel
theorem dL_law_1621 : decode cL_law 1621 = .ok (.ireturn, 1) := by decide +kernel
theorem dL_law_1622 : decode cL_law 1622 = .ok (.goto 277, 3) := by decide +kernel
theorem dL_law_1625 : decode cL_law 1625 = .ok (.aload_n 1, 1) := by decide +kernel
theorem dL_law_1626 : decode cL_law 1626 = .ok (.aload_n 0, 1) := by decide +kernel
theorem dL_law_1627 : decode cL_law 1627 = .ok (.iload 5, 2) := by decide +kernel
theorem dL_law_1629 : decode cL_law 1629 = .ok (.iconst 1, 1) := by decide +kernel
theorem dL_law_1630 : decode cL_law 1630 = .ok (.iadd, 1) := by decide +kernel
theorem dL_law_1631 : decode cL_law 1631 = .ok (.iaload, 1) := by decide +kernel
theorem dL_law_1632 : decode cL_law 1632 = .ok (.aload_n 0, 1) := by decide +kernel
theorem dL_law_1633 : decode cL_law 1633 = .ok (.iload 5, 2) := by decide +kernel
theorem dL_law_1635 : decode cL_law 1635 = .ok (.iconst 2, 1) := by decide +kernel
theorem dL_law_1636 : decode cL_law 1636 = .ok (.iadd, 1) := by decide +kernel
theorem dL_law_1637 : decode cL_law 1637 = .ok (.iaload, 1) := by decide +kernel
theorem dL_law_1638 : decode cL_law 1638 = .ok (.aload_n 3, 1) := by decide +kernel
theorem dL_law_1639 : decode cL_law 1639 = .ok (.invokestatic 180, 3) := by decide +kernel
theorem dL_law_1642 : decode cL_law 1642 = .ok (.istore 6, 2) := by decide +kernel
theorem dL_law_1644 : decode cL_law 1644 = .ok (.aload_n 2, 1) := by decide +kernel
theorem dL_law_1645 : decode cL_law 1645 = .ok (.aload_n 0, 1) := by decide +kernel
theorem dL_law_1646 : decode cL_law 1646 = .ok (.iload 5, 2) := by decide +kernel
theorem dL_law_1648 : decode cL_law 1648 = .ok (.iconst 1, 1) := by decide +kernel
theorem dL_law_1649 : decode cL_law 1649 = .ok (.iadd, 1) := by decide +kernel
theorem dL_law_1650 : decode cL_law 1650 = .ok (.iaload, 1) := by decide +kernel
theorem dL_law_1651 : decode cL_law 1651 = .ok (.aload_n 0, 1) := by decide +kernel
theorem dL_law_1652 : decode cL_law 1652 = .ok (.iload 5, 2) := by decide +kernel
theorem dL_law_1654 : decode cL_law 1654 = .ok (.iconst 2, 1) := by decide +kernel
theorem dL_law_1655 : decode cL_law 1655 = .ok (.iadd, 1) := by decide +kernel
theorem dL_law_1656 : decode cL_law 1656 = .ok (.iaload, 1) := by decide +kernel
theorem dL_law_1657 : decode cL_law 1657 = .ok (.invokevirtual 182, 3) := by decide +kernel
theorem dL_law_1660 : decode cL_law 1660 = .ok (.istore 7, 2) := by decide +kernel
theorem dL_law_1662 : decode cL_law 1662 = .ok (.aload_n 2, 1) := by decide +kernel
theorem dL_law_1663 : decode cL_law 1663 = .ok (.invokevirtual 107, 3) := by decide +kernel
theorem dL_law_1666 : decode cL_law 1666 = .ok (.iload 6, 2) := by decide +kernel
theorem dL_law_1668 : decode cL_law 1668 = .ok (.if_icmp .eq 5, 3) := by decide +kernel
theorem dL_law_1671 : decode cL_law 1671 = .ok (.iconst 0, 1) := by decide +kernel
theorem dL_law_1672 : decode cL_law 1672 = .ok (.ireturn, 1) := by decide +kernel
theorem dL_law_1673 : decode cL_law 1673 = .ok (.iload 6, 2) := by decide +kernel
theorem dL_law_1675 : decode cL_law 1675 = .ok (.ifCond .ne 15, 3) := by decide +kernel
theorem dL_law_1678 : decode cL_law 1678 = .ok (.aload_n 3, 1) := by decide +kernel
theorem dL_law_1679 : decode cL_law 1679 = .ok (.iconst 0, 1) := by decide +kernel
theorem dL_law_1680 : decode cL_law 1680 = .ok (.laload, 1) := by decide +kernel
theorem dL_law_1681 : decode cL_law 1681 = .ok (.iload 7, 2) := by decide +kernel
theorem dL_law_1683 : decode cL_law 1683 = .ok (.i2l, 1) := by decide +kernel
theorem dL_law_1684 : decode cL_law 1684 = .ok (.lcmp, 1) := by decide +kernel
theorem dL_law_1685 : decode cL_law 1685 = .ok (.ifCond .eq 5, 3) := by decide +kernel
theorem dL_law_1688 : decode cL_law 1688 = .ok (.iconst 0, 1) := by decide +kernel
theorem dL_law_1689 : decode cL_law 1689 = .ok (.ireturn, 1) := by decide +kernel
theorem dL_law_1690 : decode cL_law 1690 = .ok (.goto 209, 3) := by decide +kernel
theorem dL_law_1693 : decode cL_law 1693 = .ok (.aload_n 1, 1) := by decide +kernel
theorem dL_law_1694 : decode cL_law 1694 = .ok (.aload_n 0, 1) := by decide +kernel
theorem dL_law_1695 : decode cL_law 1695 = .ok (.iload 5, 2) := by decide +kernel
theorem dL_law_1697 : decode cL_law 1697 = .ok (.iconst 1, 1) := by decide +kernel
theorem dL_law_1698 : decode cL_law 1698 = .ok (.iadd, 1) := by decide +kernel
theorem dL_law_1699 : decode cL_law 1699 = .ok (.iaload, 1) := by decide +kernel
theorem dL_law_1700 : decode cL_law 1700 = .ok (.aload_n 0, 1) := by decide +kernel
theorem dL_law_1701 : decode cL_law 1701 = .ok (.iload 5, 2) := by decide +kernel
theorem dL_law_1703 : decode cL_law 1703 = .ok (.iconst 2, 1) := by decide +kernel
theorem dL_law_1704 : decode cL_law 1704 = .ok (.iadd, 1) := by decide +kernel
theorem dL_law_1705 : decode cL_law 1705 = .ok (.iaload, 1) := by decide +kernel
theorem dL_law_1706 : decode cL_law 1706 = .ok (.aload_n 3, 1) := by decide +kernel
theorem dL_law_1707 : decode cL_law 1707 = .ok (.invokestatic 183, 3) := by decide +kernel
theorem dL_law_1710 : decode cL_law 1710 = .ok (.istore 6, 2) := by decide +kernel
theorem dL_law_1712 : decode cL_law 1712 = .ok (.aload_n 2, 1) := by decide +kernel
theorem dL_law_1713 : decode cL_law 1713 = .ok (.aload_n 0, 1) := by decide +kernel
theorem dL_law_1714 : decode cL_law 1714 = .ok (.iload 5, 2) := by decide +kernel
theorem dL_law_1716 : decode cL_law 1716 = .ok (.iconst 1, 1) := by decide +kernel
theorem dL_law_1717 : decode cL_law 1717 = .ok (.iadd, 1) := by decide +kernel
theorem dL_law_1718 : decode cL_law 1718 = .ok (.iaload, 1) := by decide +kernel
theorem dL_law_1719 : decode cL_law 1719 = .ok (.aload_n 0, 1) := by decide +kernel
theorem dL_law_1720 : decode cL_law 1720 = .ok (.iload 5, 2) := by decide +kernel
theorem dL_law_1722 : decode cL_law 1722 = .ok (.iconst 2, 1) := by decide +kernel
theorem dL_law_1723 : decode cL_law 1723 = .ok (.iadd, 1) := by decide +kernel
theorem dL_law_1724 : decode cL_law 1724 = .ok (.iaload, 1) := by decide +kernel
theorem dL_law_1725 : decode cL_law 1725 = .ok (.invokevirtual 185, 3) := by decide +kernel
theorem dL_law_1728 : decode cL_law 1728 = .ok (.istore 7, 2) := by decide +kernel
theorem dL_law_1730 : decode cL_law 1730 = .ok (.aload_n 2, 1) := by decide +kernel
theorem dL_law_1731 : decode cL_law 1731 = .ok (.invokevirtual 107, 3) := by decide +kernel
theorem dL_law_1734 : decode cL_law 1734 = .ok (.iload 6, 2) := by decide +kernel
theorem dL_law_1736 : decode cL_law 1736 = .ok (.if_icmp .eq 5, 3) := by decide +kernel
theorem dL_law_1739 : decode cL_law 1739 = .ok (.iconst 0, 1) := by decide +kernel
theorem dL_law_1740 : decode cL_law 1740 = .ok (.ireturn, 1) := by decide +kernel
theorem dL_law_1741 : decode cL_law 1741 = .ok (.iload 6, 2) := by decide +kernel
theorem dL_law_1743 : decode cL_law 1743 = .ok (.ifCond .ne 15, 3) := by decide +kernel
theorem dL_law_1746 : decode cL_law 1746 = .ok (.aload_n 3, 1) := by decide +kernel
theorem dL_law_1747 : decode cL_law 1747 = .ok (.iconst 0, 1) := by decide +kernel
theorem dL_law_1748 : decode cL_law 1748 = .ok (.laload, 1) := by decide +kernel
theorem dL_law_1749 : decode cL_law 1749 = .ok (.iload 7, 2) := by decide +kernel
theorem dL_law_1751 : decode cL_law 1751 = .ok (.i2l, 1) := by decide +kernel
theorem dL_law_1752 : decode cL_law 1752 = .ok (.lcmp, 1) := by decide +kernel
theorem dL_law_1753 : decode cL_law 1753 = .ok (.ifCond .eq 5, 3) := by decide +kernel
theorem dL_law_1756 : decode cL_law 1756 = .ok (.iconst 0, 1) := by decide +kernel
theorem dL_law_1757 : decode cL_law 1757 = .ok (.ireturn, 1) := by decide +kernel
theorem dL_law_1758 : decode cL_law 1758 = .ok (.goto 141, 3) := by decide +kernel
theorem dL_law_1761 : decode cL_law 1761 = .ok (.aload_n 1, 1) := by decide +kernel
theorem dL_law_1762 : decode cL_law 1762 = .ok (.aload_n 0, 1) := by decide +kernel
theorem dL_law_1763 : decode cL_law 1763 = .ok (.iload 5, 2) := by decide +kernel
theorem dL_law_1765 : decode cL_law 1765 = .ok (.iconst 1, 1) := by decide +kernel
theorem dL_law_1766 : decode cL_law 1766 = .ok (.iadd, 1) := by decide +kernel
theorem dL_law_1767 : decode cL_law 1767 = .ok (.iaload, 1) := by decide +kernel
theorem dL_law_1768 : decode cL_law 1768 = .ok (.aload_n 0, 1) := by decide +kernel
theorem dL_law_1769 : decode cL_law 1769 = .ok (.iload 5, 2) := by decide +kernel
theorem dL_law_1771 : decode cL_law 1771 = .ok (.iconst 2, 1) := by decide +kernel
theorem dL_law_1772 : decode cL_law 1772 = .ok (.iadd, 1) := by decide +kernel
theorem dL_law_1773 : decode cL_law 1773 = .ok (.iaload, 1) := by decide +kernel
theorem dL_law_1774 : decode cL_law 1774 = .ok (.aload_n 3, 1) := by decide +kernel
theorem dL_law_1775 : decode cL_law 1775 = .ok (.invokestatic 186, 3) := by decide +kernel
theorem dL_law_1778 : decode cL_law 1778 = .ok (.istore 6, 2) := by decide +kernel
theorem dL_law_1780 : decode cL_law 1780 = .ok (.aload_n 2, 1) := by decide +kernel
theorem dL_law_1781 : decode cL_law 1781 = .ok (.aload_n 0, 1) := by decide +kernel
theorem dL_law_1782 : decode cL_law 1782 = .ok (.iload 5, 2) := by decide +kernel
theorem dL_law_1784 : decode cL_law 1784 = .ok (.iconst 1, 1) := by decide +kernel
theorem dL_law_1785 : decode cL_law 1785 = .ok (.iadd, 1) := by decide +kernel
theorem dL_law_1786 : decode cL_law 1786 = .ok (.iaload, 1) := by decide +kernel
theorem dL_law_1787 : decode cL_law 1787 = .ok (.aload_n 0, 1) := by decide +kernel
theorem dL_law_1788 : decode cL_law 1788 = .ok (.iload 5, 2) := by decide +kernel
theorem dL_law_1790 : decode cL_law 1790 = .ok (.iconst 2, 1) := by decide +kernel
theorem dL_law_1791 : decode cL_law 1791 = .ok (.iadd, 1) := by decide +kernel
theorem dL_law_1792 : decode cL_law 1792 = .ok (.iaload, 1) := by decide +kernel
theorem dL_law_1793 : decode cL_law 1793 = .ok (.invokevirtual 188, 3) := by decide +kernel
theorem dL_law_1796 : decode cL_law 1796 = .ok (.istore 7, 2) := by decide +kernel
theorem dL_law_1798 : decode cL_law 1798 = .ok (.aload_n 2, 1) := by decide +kernel
theorem dL_law_1799 : decode cL_law 1799 = .ok (.invokevirtual 107, 3) := by decide +kernel
theorem dL_law_1802 : decode cL_law 1802 = .ok (.iload 6, 2) := by decide +kernel
theorem dL_law_1804 : decode cL_law 1804 = .ok (.if_icmp .eq 5, 3) := by decide +kernel
theorem dL_law_1807 : decode cL_law 1807 = .ok (.iconst 0, 1) := by decide +kernel
theorem dL_law_1808 : decode cL_law 1808 = .ok (.ireturn, 1) := by decide +kernel
theorem dL_law_1809 : decode cL_law 1809 = .ok (.iload 6, 2) := by decide +kernel
theorem dL_law_1811 : decode cL_law 1811 = .ok (.ifCond .ne 15, 3) := by decide +kernel
theorem dL_law_1814 : decode cL_law 1814 = .ok (.aload_n 3, 1) := by decide +kernel
theorem dL_law_1815 : decode cL_law 1815 = .ok (.iconst 0, 1) := by decide +kernel
theorem dL_law_1816 : decode cL_law 1816 = .ok (.laload, 1) := by decide +kernel
theorem dL_law_1817 : decode cL_law 1817 = .ok (.iload 7, 2) := by decide +kernel
theorem dL_law_1819 : decode cL_law 1819 = .ok (.i2l, 1) := by decide +kernel
theorem dL_law_1820 : decode cL_law 1820 = .ok (.lcmp, 1) := by decide +kernel
theorem dL_law_1821 : decode cL_law 1821 = .ok (.ifCond .eq 5, 3) := by decide +kernel
theorem dL_law_1824 : decode cL_law 1824 = .ok (.iconst 0, 1) := by decide +kernel
theorem dL_law_1825 : decode cL_law 1825 = .ok (.ireturn, 1) := by decide +kernel
theorem dL_law_1826 : decode cL_law 1826 = .ok (.goto 73, 3) := by decide +kernel
theorem dL_law_1829 : decode cL_law 1829 = .ok (.aload_n 1, 1) := by decide +kernel
theorem dL_law_1830 : decode cL_law 1830 = .ok (.aload_n 0, 1) := by decide +kernel
theorem dL_law_1831 : decode cL_law 1831 = .ok (.iload 5, 2) := by decide +kernel
theorem dL_law_1833 : decode cL_law 1833 = .ok (.iconst 1, 1) := by decide +kernel
theorem dL_law_1834 : decode cL_law 1834 = .ok (.iadd, 1) := by decide +kernel
theorem dL_law_1835 : decode cL_law 1835 = .ok (.iaload, 1) := by decide +kernel
theorem dL_law_1836 : decode cL_law 1836 = .ok (.aload_n 3, 1) := by decide +kernel
theorem dL_law_1837 : decode cL_law 1837 = .ok (.invokestatic 189, 3) := by decide +kernel
theorem dL_law_1840 : decode cL_law 1840 = .ok (.istore 6, 2) := by decide +kernel
theorem dL_law_1842 : decode cL_law 1842 = .ok (.aload_n 2, 1) := by decide +kernel
theorem dL_law_1843 : decode cL_law 1843 = .ok (.aload_n 0, 1) := by decide +kernel
theorem dL_law_1844 : decode cL_law 1844 = .ok (.iload 5, 2) := by decide +kernel
theorem dL_law_1846 : decode cL_law 1846 = .ok (.iconst 1, 1) := by decide +kernel
theorem dL_law_1847 : decode cL_law 1847 = .ok (.iadd, 1) := by decide +kernel
theorem dL_law_1848 : decode cL_law 1848 = .ok (.iaload, 1) := by decide +kernel
theorem dL_law_1849 : decode cL_law 1849 = .ok (.invokevirtual 191, 3) := by decide +kernel
theorem dL_law_1852 : decode cL_law 1852 = .ok (.istore 7, 2) := by decide +kernel
theorem dL_law_1854 : decode cL_law 1854 = .ok (.aload_n 2, 1) := by decide +kernel
theorem dL_law_1855 : decode cL_law 1855 = .ok (.invokevirtual 107, 3) := by decide +kernel
theorem dL_law_1858 : decode cL_law 1858 = .ok (.iload 6, 2) := by decide +kernel
theorem dL_law_1860 : decode cL_law 1860 = .ok (.if_icmp .eq 5, 3) := by decide +kernel
theorem dL_law_1863 : decode cL_law 1863 = .ok (.iconst 0, 1) := by decide +kernel
theorem dL_law_1864 : decode cL_law 1864 = .ok (.ireturn, 1) := by decide +kernel
theorem dL_law_1865 : decode cL_law 1865 = .ok (.iload 6, 2) := by decide +kernel
theorem dL_law_1867 : decode cL_law 1867 = .ok (.ifCond .ne 15, 3) := by decide +kernel
theorem dL_law_1870 : decode cL_law 1870 = .ok (.aload_n 3, 1) := by decide +kernel
theorem dL_law_1871 : decode cL_law 1871 = .ok (.iconst 0, 1) := by decide +kernel
theorem dL_law_1872 : decode cL_law 1872 = .ok (.laload, 1) := by decide +kernel
theorem dL_law_1873 : decode cL_law 1873 = .ok (.iload 7, 2) := by decide +kernel
theorem dL_law_1875 : decode cL_law 1875 = .ok (.i2l, 1) := by decide +kernel
theorem dL_law_1876 : decode cL_law 1876 = .ok (.lcmp, 1) := by decide +kernel
theorem dL_law_1877 : decode cL_law 1877 = .ok (.ifCond .eq 5, 3) := by decide +kernel
theorem dL_law_1880 : decode cL_law 1880 = .ok (.iconst 0, 1) := by decide +kernel
theorem dL_law_1881 : decode cL_law 1881 = .ok (.ireturn, 1) := by decide +kernel
theorem dL_law_1882 : decode cL_law 1882 = .ok (.goto 17, 3) := by decide +kernel
theorem dL_law_1885 : decode cL_law 1885 = .ok (.aload_n 1, 1) := by decide +kernel
theorem dL_law_1886 : decode cL_law 1886 = .ok (.invokevirtual 192, 3) := by decide +kernel
theorem dL_law_1889 : decode cL_law 1889 = .ok (.aload_n 2, 1) := by decide +kernel
theorem dL_law_1890 : decode cL_law 1890 = .ok (.invokevirtual 196, 3) := by decide +kernel
theorem dL_law_1893 : decode cL_law 1893 = .ok (.lcmp, 1) := by decide +kernel
theorem dL_law_1894 : decode cL_law 1894 = .ok (.ifCond .eq 5, 3) := by decide +kernel
theorem dL_law_1897 : decode cL_law 1897 = .ok (.iconst 0, 1) := by decide +kernel
theorem dL_law_1898 : decode cL_law 1898 = .ok (.ireturn, 1) := by decide +kernel
theorem dL_law_1899 : decode cL_law 1899 = .ok (.iinc 5 4, 3) := by decide +kernel
theorem dL_law_1902 : decode cL_law 1902 = .ok (.goto (-1874), 3) := by decide +kernel
theorem dL_law_1905 : decode cL_law 1905 = .ok (.iconst 1, 1) := by decide +kernel
theorem dL_law_1906 : decode cL_law 1906 = .ok (.ireturn, 1) := by decide +kernel
end
